section
-- ===== PART A: goes FIRST, ahead of the names: the tables' words, and 'selects' of the private methods out of them =====
/-- a private method of a class that the tables say can be made, by its rows of tables_1 -/
def lw_okq (q : MethodName × Nat) : Prop := (q.1.cls ≠ "java/lang/invoke/MethodHandle" ∧ q.1.cls ≠ "java/lang/invoke/VarHandle") ∧ Cond.instantiable q.1.cls q.2 ∈ tables_1 ∧ Cond.privateMethod q.1 ∈ tables_1 ∧ Cond.instanceMethod q.1 ∈ tables_1
theorem lw_p0 : lw_okq (⟨"NestCells", "forgetTransactions", "()V"⟩, 12) := ⟨⟨by decide +kernel, by decide +kernel⟩, List.mem_of_getElem? (i := 12) (by decide +kernel), List.mem_of_getElem? (i := 65) (by decide +kernel), List.mem_of_getElem? (i := 66) (by decide +kernel)⟩
theorem lw_p1 : lw_okq (⟨"NestCells", "writeHomesFromEntries", "(I)I"⟩, 12) := ⟨⟨by decide +kernel, by decide +kernel⟩, List.mem_of_getElem? (i := 12) (by decide +kernel), List.mem_of_getElem? (i := 77) (by decide +kernel), List.mem_of_getElem? (i := 78) (by decide +kernel)⟩
theorem lw_p2 : lw_okq (⟨"NestCells", "putWord", "(II)V"⟩, 12) := ⟨⟨by decide +kernel, by decide +kernel⟩, List.mem_of_getElem? (i := 12) (by decide +kernel), List.mem_of_getElem? (i := 84) (by decide +kernel), List.mem_of_getElem? (i := 85) (by decide +kernel)⟩
theorem lw_p3 : lw_okq (⟨"NestCells", "needPower", "()V"⟩, 12) := ⟨⟨by decide +kernel, by decide +kernel⟩, List.mem_of_getElem? (i := 12) (by decide +kernel), List.mem_of_getElem? (i := 99) (by decide +kernel), List.mem_of_getElem? (i := 100) (by decide +kernel)⟩
theorem lw_p4 : lw_okq (⟨"java/lang/Throwable", "fillInStackTrace", "(I)Ljava/lang/Throwable;"⟩, 6) := ⟨⟨by decide +kernel, by decide +kernel⟩, List.mem_of_getElem? (i := 140) (by decide +kernel), List.mem_of_getElem? (i := 138) (by decide +kernel), List.mem_of_getElem? (i := 139) (by decide +kernel)⟩
theorem lw_p5 : lw_okq (⟨"NestCells", "openLevel", "(I)V"⟩, 12) := ⟨⟨by decide +kernel, by decide +kernel⟩, List.mem_of_getElem? (i := 12) (by decide +kernel), List.mem_of_getElem? (i := 171) (by decide +kernel), List.mem_of_getElem? (i := 172) (by decide +kernel)⟩
theorem lw_p6 : lw_okq (⟨"NestCells", "needCell", "(I)V"⟩, 12) := ⟨⟨by decide +kernel, by decide +kernel⟩, List.mem_of_getElem? (i := 12) (by decide +kernel), List.mem_of_getElem? (i := 183) (by decide +kernel), List.mem_of_getElem? (i := 184) (by decide +kernel)⟩
theorem lw_p7 : lw_okq (⟨"NestCells", "needTransaction", "()V"⟩, 12) := ⟨⟨by decide +kernel, by decide +kernel⟩, List.mem_of_getElem? (i := 12) (by decide +kernel), List.mem_of_getElem? (i := 203) (by decide +kernel), List.mem_of_getElem? (i := 204) (by decide +kernel)⟩
theorem lw_p8 : lw_okq (⟨"NestCells", "tracedCells", "(I)I"⟩, 12) := ⟨⟨by decide +kernel, by decide +kernel⟩, List.mem_of_getElem? (i := 12) (by decide +kernel), List.mem_of_getElem? (i := 208) (by decide +kernel), List.mem_of_getElem? (i := 209) (by decide +kernel)⟩
theorem lw_p9 : lw_okq (⟨"NestCells", "leaveTrace", "(II)V"⟩, 12) := ⟨⟨by decide +kernel, by decide +kernel⟩, List.mem_of_getElem? (i := 12) (by decide +kernel), List.mem_of_getElem? (i := 216) (by decide +kernel), List.mem_of_getElem? (i := 217) (by decide +kernel)⟩
theorem lw_p10 : lw_okq (⟨"NestCells", "innermostLevel", "()I"⟩, 12) := ⟨⟨by decide +kernel, by decide +kernel⟩, List.mem_of_getElem? (i := 12) (by decide +kernel), List.mem_of_getElem? (i := 234) (by decide +kernel), List.mem_of_getElem? (i := 235) (by decide +kernel)⟩
theorem lw_p11 : lw_okq (⟨"NestCells", "foldLevel", "(I)V"⟩, 12) := ⟨⟨by decide +kernel, by decide +kernel⟩, List.mem_of_getElem? (i := 12) (by decide +kernel), List.mem_of_getElem? (i := 238) (by decide +kernel), List.mem_of_getElem? (i := 239) (by decide +kernel)⟩
theorem lw_p12 : lw_okq (⟨"NestCells", "keepOnDisk", "()V"⟩, 12) := ⟨⟨by decide +kernel, by decide +kernel⟩, List.mem_of_getElem? (i := 12) (by decide +kernel), List.mem_of_getElem? (i := 242) (by decide +kernel), List.mem_of_getElem? (i := 243) (by decide +kernel)⟩
theorem lw_p13 : lw_okq (⟨"NestCells", "writeEntries", "(I)V"⟩, 12) := ⟨⟨by decide +kernel, by decide +kernel⟩, List.mem_of_getElem? (i := 12) (by decide +kernel), List.mem_of_getElem? (i := 252) (by decide +kernel), List.mem_of_getElem? (i := 253) (by decide +kernel)⟩
theorem lw_p14 : lw_okq (⟨"NestCells", "writeHomes", "(I)V"⟩, 12) := ⟨⟨by decide +kernel, by decide +kernel⟩, List.mem_of_getElem? (i := 12) (by decide +kernel), List.mem_of_getElem? (i := 256) (by decide +kernel), List.mem_of_getElem? (i := 257) (by decide +kernel)⟩
theorem lw_p15 : lw_okq (⟨"NestCells", "goBack", "(I)I"⟩, 12) := ⟨⟨by decide +kernel, by decide +kernel⟩, List.mem_of_getElem? (i := 12) (by decide +kernel), List.mem_of_getElem? (i := 267) (by decide +kernel), List.mem_of_getElem? (i := 268) (by decide +kernel)⟩
def lw_privs_1 : List (MethodName × Nat) := [(⟨"NestCells", "forgetTransactions", "()V"⟩, 12), (⟨"NestCells", "writeHomesFromEntries", "(I)I"⟩, 12), (⟨"NestCells", "putWord", "(II)V"⟩, 12), (⟨"NestCells", "needPower", "()V"⟩, 12), (⟨"java/lang/Throwable", "fillInStackTrace", "(I)Ljava/lang/Throwable;"⟩, 6), (⟨"NestCells", "openLevel", "(I)V"⟩, 12), (⟨"NestCells", "needCell", "(I)V"⟩, 12), (⟨"NestCells", "needTransaction", "()V"⟩, 12), (⟨"NestCells", "tracedCells", "(I)I"⟩, 12), (⟨"NestCells", "leaveTrace", "(II)V"⟩, 12), (⟨"NestCells", "innermostLevel", "()I"⟩, 12), (⟨"NestCells", "foldLevel", "(I)V"⟩, 12), (⟨"NestCells", "keepOnDisk", "()V"⟩, 12), (⟨"NestCells", "writeEntries", "(I)V"⟩, 12), (⟨"NestCells", "writeHomes", "(I)V"⟩, 12), (⟨"NestCells", "goBack", "(I)I"⟩, 12)]
theorem lw_r1 : ∀ q ∈ lw_privs_1, lw_okq q := List.forall_mem_cons.mpr ⟨lw_p0, List.forall_mem_cons.mpr ⟨lw_p1, List.forall_mem_cons.mpr ⟨lw_p2, List.forall_mem_cons.mpr ⟨lw_p3, List.forall_mem_cons.mpr ⟨lw_p4, List.forall_mem_cons.mpr ⟨lw_p5, List.forall_mem_cons.mpr ⟨lw_p6, List.forall_mem_cons.mpr ⟨lw_p7, List.forall_mem_cons.mpr ⟨lw_p8, List.forall_mem_cons.mpr ⟨lw_p9, List.forall_mem_cons.mpr ⟨lw_p10, List.forall_mem_cons.mpr ⟨lw_p11, List.forall_mem_cons.mpr ⟨lw_p12, List.forall_mem_cons.mpr ⟨lw_p13, List.forall_mem_cons.mpr ⟨lw_p14, List.forall_mem_cons.mpr ⟨lw_p15, fun _ h => absurd h List.not_mem_nil⟩⟩⟩⟩⟩⟩⟩⟩⟩⟩⟩⟩⟩⟩⟩⟩
theorem lw_p16 : lw_okq (⟨"NestCells", "needName", "(I)V"⟩, 12) := ⟨⟨by decide +kernel, by decide +kernel⟩, List.mem_of_getElem? (i := 12) (by decide +kernel), List.mem_of_getElem? (i := 278) (by decide +kernel), List.mem_of_getElem? (i := 279) (by decide +kernel)⟩
theorem lw_p17 : lw_okq (⟨"NestCells", "pointLevel", "(I)I"⟩, 12) := ⟨⟨by decide +kernel, by decide +kernel⟩, List.mem_of_getElem? (i := 12) (by decide +kernel), List.mem_of_getElem? (i := 283) (by decide +kernel), List.mem_of_getElem? (i := 284) (by decide +kernel)⟩
theorem lw_p18 : lw_okq (⟨"NestCells", "points", "()I"⟩, 12) := ⟨⟨by decide +kernel, by decide +kernel⟩, List.mem_of_getElem? (i := 12) (by decide +kernel), List.mem_of_getElem? (i := 287) (by decide +kernel), List.mem_of_getElem? (i := 288) (by decide +kernel)⟩
theorem lw_p19 : lw_okq (⟨"NestCells", "needPoint", "(I)I"⟩, 12) := ⟨⟨by decide +kernel, by decide +kernel⟩, List.mem_of_getElem? (i := 12) (by decide +kernel), List.mem_of_getElem? (i := 298) (by decide +kernel), List.mem_of_getElem? (i := 299) (by decide +kernel)⟩
theorem lw_p20 : lw_okq (⟨"NestCells", "needWord", "(I)V"⟩, 12) := ⟨⟨by decide +kernel, by decide +kernel⟩, List.mem_of_getElem? (i := 12) (by decide +kernel), List.mem_of_getElem? (i := 317) (by decide +kernel), List.mem_of_getElem? (i := 318) (by decide +kernel)⟩
theorem lw_p21 : lw_okq (⟨"NestCellsModel", "refuses", "(I)Z"⟩, 11) := ⟨⟨by decide +kernel, by decide +kernel⟩, List.mem_of_getElem? (i := 346) (by decide +kernel), List.mem_of_getElem? (i := 398) (by decide +kernel), List.mem_of_getElem? (i := 399) (by decide +kernel)⟩
theorem lw_p22 : lw_okq (⟨"NestCellsModel", "opens", "(I)V"⟩, 11) := ⟨⟨by decide +kernel, by decide +kernel⟩, List.mem_of_getElem? (i := 346) (by decide +kernel), List.mem_of_getElem? (i := 402) (by decide +kernel), List.mem_of_getElem? (i := 403) (by decide +kernel)⟩
theorem lw_p23 : lw_okq (⟨"NestCellsModel", "traces", "()I"⟩, 11) := ⟨⟨by decide +kernel, by decide +kernel⟩, List.mem_of_getElem? (i := 346) (by decide +kernel), List.mem_of_getElem? (i := 413) (by decide +kernel), List.mem_of_getElem? (i := 414) (by decide +kernel)⟩
theorem lw_p24 : lw_okq (⟨"NestCellsModel", "first", "()I"⟩, 11) := ⟨⟨by decide +kernel, by decide +kernel⟩, List.mem_of_getElem? (i := 346) (by decide +kernel), List.mem_of_getElem? (i := 428) (by decide +kernel), List.mem_of_getElem? (i := 429) (by decide +kernel)⟩
theorem lw_p25 : lw_okq (⟨"NestCellsModel", "melts", "(I)V"⟩, 11) := ⟨⟨by decide +kernel, by decide +kernel⟩, List.mem_of_getElem? (i := 346) (by decide +kernel), List.mem_of_getElem? (i := 432) (by decide +kernel), List.mem_of_getElem? (i := 433) (by decide +kernel)⟩
theorem lw_p26 : lw_okq (⟨"NestCellsModel", "stores", "(I)Z"⟩, 11) := ⟨⟨by decide +kernel, by decide +kernel⟩, List.mem_of_getElem? (i := 346) (by decide +kernel), List.mem_of_getElem? (i := 436) (by decide +kernel), List.mem_of_getElem? (i := 437) (by decide +kernel)⟩
theorem lw_p27 : lw_okq (⟨"NestCellsModel", "puts", "(II)Z"⟩, 11) := ⟨⟨by decide +kernel, by decide +kernel⟩, List.mem_of_getElem? (i := 346) (by decide +kernel), List.mem_of_getElem? (i := 440) (by decide +kernel), List.mem_of_getElem? (i := 441) (by decide +kernel)⟩
theorem lw_p28 : lw_okq (⟨"NestCellsModel", "returns", "(I)I"⟩, 11) := ⟨⟨by decide +kernel, by decide +kernel⟩, List.mem_of_getElem? (i := 346) (by decide +kernel), List.mem_of_getElem? (i := 448) (by decide +kernel), List.mem_of_getElem? (i := 449) (by decide +kernel)⟩
theorem lw_p29 : lw_okq (⟨"NestCellsModel", "find", "(I)I"⟩, 11) := ⟨⟨by decide +kernel, by decide +kernel⟩, List.mem_of_getElem? (i := 346) (by decide +kernel), List.mem_of_getElem? (i := 456) (by decide +kernel), List.mem_of_getElem? (i := 457) (by decide +kernel)⟩
theorem lw_p30 : lw_okq (⟨"NestCellsModel", "points", "()I"⟩, 11) := ⟨⟨by decide +kernel, by decide +kernel⟩, List.mem_of_getElem? (i := 346) (by decide +kernel), List.mem_of_getElem? (i := 460) (by decide +kernel), List.mem_of_getElem? (i := 461) (by decide +kernel)⟩
theorem lw_p31 : lw_okq (⟨"NestCellsModel", "wrong", "(I)I"⟩, 11) := ⟨⟨by decide +kernel, by decide +kernel⟩, List.mem_of_getElem? (i := 346) (by decide +kernel), List.mem_of_getElem? (i := 468) (by decide +kernel), List.mem_of_getElem? (i := 469) (by decide +kernel)⟩
def lw_privs_2 : List (MethodName × Nat) := [(⟨"NestCells", "needName", "(I)V"⟩, 12), (⟨"NestCells", "pointLevel", "(I)I"⟩, 12), (⟨"NestCells", "points", "()I"⟩, 12), (⟨"NestCells", "needPoint", "(I)I"⟩, 12), (⟨"NestCells", "needWord", "(I)V"⟩, 12), (⟨"NestCellsModel", "refuses", "(I)Z"⟩, 11), (⟨"NestCellsModel", "opens", "(I)V"⟩, 11), (⟨"NestCellsModel", "traces", "()I"⟩, 11), (⟨"NestCellsModel", "first", "()I"⟩, 11), (⟨"NestCellsModel", "melts", "(I)V"⟩, 11), (⟨"NestCellsModel", "stores", "(I)Z"⟩, 11), (⟨"NestCellsModel", "puts", "(II)Z"⟩, 11), (⟨"NestCellsModel", "returns", "(I)I"⟩, 11), (⟨"NestCellsModel", "find", "(I)I"⟩, 11), (⟨"NestCellsModel", "points", "()I"⟩, 11), (⟨"NestCellsModel", "wrong", "(I)I"⟩, 11)]
theorem lw_r2 : ∀ q ∈ lw_privs_2, lw_okq q := List.forall_mem_cons.mpr ⟨lw_p16, List.forall_mem_cons.mpr ⟨lw_p17, List.forall_mem_cons.mpr ⟨lw_p18, List.forall_mem_cons.mpr ⟨lw_p19, List.forall_mem_cons.mpr ⟨lw_p20, List.forall_mem_cons.mpr ⟨lw_p21, List.forall_mem_cons.mpr ⟨lw_p22, List.forall_mem_cons.mpr ⟨lw_p23, List.forall_mem_cons.mpr ⟨lw_p24, List.forall_mem_cons.mpr ⟨lw_p25, List.forall_mem_cons.mpr ⟨lw_p26, List.forall_mem_cons.mpr ⟨lw_p27, List.forall_mem_cons.mpr ⟨lw_p28, List.forall_mem_cons.mpr ⟨lw_p29, List.forall_mem_cons.mpr ⟨lw_p30, List.forall_mem_cons.mpr ⟨lw_p31, fun _ h => absurd h List.not_mem_nil⟩⟩⟩⟩⟩⟩⟩⟩⟩⟩⟩⟩⟩⟩⟩⟩
def lw_privs : List (MethodName × Nat) := lw_privs_1 ++ (lw_privs_2)
def lw_tbl : List Cond := k2_sels lw_privs ++ tables_1
theorem lw_privs_ok : ∀ q ∈ lw_privs, lw_okq q := by
  show ∀ q ∈ lw_privs_1 ++ (lw_privs_2), lw_okq q
  exact List.forall_mem_append.mpr ⟨lw_r1, lw_r2⟩
-- ===== end of PART A; then your names; then what follows =====
end
section
/-! ===== BEGIN words of one list among another's, by their places ===== -/
theorem goodIn_r {big : List Cond} (ws : List Cond) (ps : List Nat) (hp : ws = ps.filterMap (fun i => big[i]?)) (h : ws.all goodWord = true) : GoodIn big ws := by
  intro w hw
  have h1 := List.all_eq_true.mp h w hw
  rw [hp] at hw
  obtain ⟨i, -, hi⟩ := List.mem_filterMap.mp hw
  have hm : w ∈ big := by first | exact List.mem_of_getElem? hi | exact List.getElem?_mem hi
  exact ⟨hm, good_of_word h1⟩
theorem goodIn_app {big a b : List Cond} (ha : GoodIn big a) (hb : GoodIn big b) : GoodIn big (a ++ b) := fun w h => (List.mem_append.mp h).elim (ha w) (hb w)
theorem goodIn_ca {big a b : List Cond} {c : Cond} (ha : GoodIn big (c :: a)) (hb : GoodIn big b) : GoodIn big (c :: (a ++ b)) := fun w h => (List.mem_cons.mp h).elim (fun e => ha w (List.mem_cons.mpr (Or.inl e))) (fun h => (List.mem_append.mp h).elim (fun h => ha w (List.mem_cons.mpr (Or.inr h))) (hb w))
theorem goodIn_sub {big ws : List Cond} (hm : ∀ w ∈ ws, w ∈ big) (h : ws.all goodWord = true) : GoodIn big ws := fun w hw => ⟨hm w hw, good_of_word (List.all_eq_true.mp h w hw)⟩
/-! ===== END ===== -/

/-! ===== BEGIN exceptions that leave a method, and their catching by the caller (launches without stack traces) ===== -/
section VXA
/-! The laws vx_back, vx_callV, vx_callS, vx_callSW, vx_throw0, vx_throwS follow proofs of the library, with one case more: JvmDerived/Free/Laws.lean (Back.of_free), Shelf42/LK1.lean (callV, callS), Shelf/KitTraced.lean (throwNew0V, throwNewS). -/
/-- where a method has thrown q: the class by its name, the cell, what was written, the world -/
def vx_T (XC : String → State → State → Prop) (st : State) (q : Addr) (t : State) (mc ms : Nat) (free : Addr → Prop) : Prop :=
  ∃ (E : String) (ce : Cell) (L : List Loc), XC E st t ∧ t.heap[q]? = some ce ∧ ce.vm = .none ∧ st.vm.findClass E = some ce.cls ∧ st.WarmedH t.vm ∧ st.sameButNew ({ t with vm := st.vm } : State) L mc ms ∧ ∀ z ∈ L, free z.base
def vx_Q (Qc : Array Value → State → Outcome → State → Prop) (XC : String → State → State → Prop) (mc ms : Nat) (free : Addr → Prop) : Array Value → State → Outcome → State → Prop := fun a st o t =>
  (Qc a st o t ∧ ∃ L, FrameEnd st o t L mc ms ∧ ∀ q ∈ L, free q.base) ∨ ∃ q, o = .threw q ∧ vx_T XC st q t mc ms free
/-- a callee that returns or throws -/
def vx_Met (l : Launch) (y : MethodName) (ws : List Cond) (rm : Room) (Pc : Array Value → State → Prop) (Qc : Array Value → State → Outcome → State → Prop) (XC : String → State → State → Prop) (mc ms : Nat) (free : Addr → Prop) : Prop :=
  MetFree l y (headSpec ws rm) Pc (fun _ _ _ _ _ => True) (vx_Q Qc XC mc ms free)
def vx_Post (XC : String → State → State → Prop) (mc ms : Nat) (free : Addr → Prop) : Pt → Array Value → Addr → Pt → Prop := fun A a q B =>
  ∃ (g : JFrame) (mk : MethodId) (t : State) (L : List Loc) (E : String) (ce : Cell), B.U.heap = t.heap ∧ B.U.vm = t.vm ∧ XC E (A.U.calling g mk a) t ∧ t.heap[q]? = some ce ∧ ce.vm = .none ∧ A.U.vm.findClass E = some ce.cls ∧ B.locs = A.locs ++ L ∧ (∀ z ∈ L, free z.base) ∧ B.cells = A.cells + mc ∧ B.slots = A.slots + ms
def vx_Back (l : Launch) (R : Room) (p : Program) (e : Env) (below : List Frame) (s : State) (sargs : Array Value) (y : MethodName) (len W9 : Nat)
    (Pre : Pt → Array Value → Prop) (Post : Pt → Array Value → Option Value → Pt → Prop) (PostX : Pt → Array Value → Addr → Pt → Prop) : Prop :=
  ∀ (m : MethodId) (meth : Method) (c : Code) (A : Pt) (g : JFrame) (ig : Instr) (mk : MethodId) (a : Array Value),
    Stand p l e R s m sargs below meth c A.U A.locs A.cells A.slots → g.method = m → g.locals.size = c.maxLocals → decode c.code g.pc = .ok (ig, len) →
    2 * g.monitorRoom + (g.stack.map fun v => v.category).sum ≤ W9 → A.U.methodNamed? y = some mk → Pre A a →
    (∃ (v : Option Value) (B : Pt), Stand p l e R s m sargs below meth c B.U B.locs B.cells B.slots ∧ Post A a v B ∧
      Steps p.tables e below (doInvoke e (A.U.setTop g) [] mk a).1 (B.U.setTop { g with pc := g.pc + len, stack := v.toList ++ g.stack })) ∨
    (∃ (q : Addr) (B : Pt), Stand p l e R s m sargs below meth c B.U B.locs B.cells B.slots ∧ PostX A a q B ∧
      Steps p.tables e below (doInvoke e (A.U.setTop g) [] mk a).1 ((B.U.setTop g).pushFrame (.throwing q)))
section Payer
variable {l : Launch} {R : Room} {p : Program} {e : Env} {below : List Frame} {s : State} {sargs : Array Value} {y : MethodName} {len W9 : Nat}
theorem vx_back {ws : List Cond} {rm : Room} {Pc : Array Value → State → Prop} {Qc : Array Value → State → Outcome → State → Prop} {XC : String → State → State → Prop} {mc ms : Nat} {free : Addr → Prop} {bytes : ByteArray} {maxL : Nat} {ret : Option FieldType}
    (hM : vx_Met l y ws rm Pc Qc XC mc ms free) (hblind : FrameBlind Pc) (hrc : rm.cells = mc) (hrs : rm.slots = ms)
    (hframes : rm.frames + 1 ≤ R.frames) (hlocals : W9 + (maxL + 11) + rm.locals ≤ R.locals)
    (hws : ∀ w ∈ ws, ∀ a' U, s.WarmedH U.vm → w.before a' U = true) (hcode : Cond.code y bytes maxL ret ∈ ws) (hinit : ∀ a' U, s.WarmedH U.vm → (Cond.initialized y.cls).before a' U = true) :
    vx_Back l R p e below s sargs y len W9 (PreOf R mc ms Pc) (PostOf Qc mc ms free) (vx_Post XC mc ms free) := by
  intro m meth c A g ig mk a X hg hsize hdg hW hn hp
  have h1 : (headSpec ws rm).pre.before a A.U = true := atoms_intro fun w hw => hws w hw _ _ X.warmed
  have h2 : (Cond.code y bytes maxL ret).before a A.U = true := hws _ hcode _ _ X.warmed
  have h3 : (Cond.initialized y.cls).before a A.U = true := hinit _ _ X.warmed
  have h4 : A.cells + (headSpec ws rm).room.cells ≤ R.cells := by rw [show (headSpec ws rm).room.cells = mc from hrc]; exact hp.1
  have h5 : A.slots + (headSpec ws rm).room.slots ≤ R.slots := by rw [show (headSpec ws rm).room.slots = ms from hrs]; exact hp.2.1
  have hPc : Pc a (A.U.calling g mk a) := hblind _ _ _ _ hp.2.2
  obtain ⟨U, Ls, c0, s0⟩ := A
  dsimp only [Pt.U, Pt.locs, Pt.cells, Pt.slots] at h1 h2 h3 h4 h5 X hn hPc ⊢
  obtain ⟨methY, cY, hmY, hcY, -, hlY, -, -, -, -⟩ := Cond.code_spec hn h2
  obtain ⟨kY, hkY, -⟩ := className_of_methodNamed hn
  have hinitY : kY.init = .initialized := Cond.initialized_spec (findClass_of_methodNamed hn) hkY h3
  have h : At U g.method c below := by rw [hg]; exact X.here
  have hlocals9 : W9 + (maxL + 11) + (headSpec ws rm).room.locals ≤ R.locals := hlocals
  have happ : (headSpec ws rm).appliesLoose y e.platform (U.calling g mk a) = true :=
    Spec.appliesLoose_calling (g := g) h hdg hn hkY hinitY
      (X.room_calling (g := g) (R' := (headSpec ws rm).room) hsize hmY hcY hframes (by rw [hlY]; omega) h4 h5) h1
  obtain ⟨mid, hmid⟩ := h.above
  have hfr : (U.setTop g).frames = (.java g :: mid) ++ below := by rw [State.frames_setTop' g h.top, hmid]; rfl
  obtain ⟨o, s₂, hsteps, -, hend, hq⟩ := Steps.callFree hM p X.admits X.cas X.clock (acts := []) hfr happ hPc trivial
  have hq' : vx_Q Qc XC mc ms free a (U.calling g mk a) o s₂ := hq
  rw [State.frames_setTop' g h.top] at hend
  obtain ⟨g₀, hg0⟩ := Option.isSome_iff_exists.mp h.top
  obtain ⟨r, hr⟩ := State.topJava?_eq_some.mp hg0
  have hr' : (({ U with heap := s₂.heap, slotsUsed := s₂.slotsUsed } : State).setVm s₂.vm).frames = .java g₀ :: r := hr
  rcases hq' with ⟨hqc, L, hfe, hL⟩ | ⟨q, rfl, E, ce, L, hx, hce, hcv, hcl, hW₂, hsm, hL⟩
  · obtain ⟨⟨v, rfl⟩, hW₂, e2, q2, q3, q4, q5, q6⟩ := id hfe
    have e3 : s₂ = ({ (U.calling g mk a).setFrames s₂.frames with heap := s₂.heap, slotsUsed := s₂.slotsUsed } : State).setVm s₂.vm := by
      have : s₂ = ({ s₂ with vm := (U.calling g mk a).vm } : State).setVm s₂.vm := rfl
      rw [e2] at this
      exact this
    obtain ⟨c₂, i₂, len₂, hc₂, hd₂, hf₂⟩ := hend
    have hW' : U.WarmedH s₂.vm := hW₂
    have hcc : c₂ = c := by
      have h1 : s₂.code? g.method = U.code? g.method := by
        rw [State.code?_eq, State.code?_eq, hW'.alike.method?]
      exact Option.some.inj (hc₂.symm.trans (h1.trans h.code))
    subst hcc
    have hlen : len₂ = len := by rw [hdg] at hd₂; cases hd₂; rfl
    subst hlen
    have hs₂ : s₂ = (({ U with heap := s₂.heap, slotsUsed := s₂.slotsUsed } : State).setVm s₂.vm).setTop { g with pc := g.pc + len₂, stack := v.toList ++ g.stack } := by
      refine e3.trans ?_
      rw [hf₂, State.calling_eq h.top, State.setFrames_setFrames, State.setTop_of_frames _ hr', hr]
      rfl
    have hsame : U.sameButNew ({ U with heap := s₂.heap, slotsUsed := s₂.slotsUsed } : State) L mc ms := by
      refine ⟨?_, q2, q3, q4, q5, q6⟩
      obtain ⟨t, ht, -⟩ := State.frames_cons hr
      show ({ U with heap := s₂.heap, slotsUsed := s₂.slotsUsed } : State) = { U.setFrames U.frames with heap := s₂.heap, slotsUsed := s₂.slotsUsed }
      rw [State.setFrames_self ht]
    subst hg
    refine Or.inl ⟨v, ⟨(({ U with heap := s₂.heap, slotsUsed := s₂.slotsUsed } : State).setVm s₂.vm), Ls ++ L, c0 + mc, s0 + ms⟩,
      ⟨X.admits, X.cas, X.clock, X.frames, X.room, X.hears, X.method, X.code, (X.here.setHeapUsed s₂.heap s₂.slotsUsed).setVm hW'.alike, X.tail, State.WarmedH.trans X.warmed hW', X.limits, X.bytes, X.same.trans (hsame.setVm s.vm)⟩,
      ⟨g, mk, s₂, L, rfl, rfl, hqc, rfl, hL, rfl, rfl⟩, ?_⟩
    show Steps p.tables e below _ ((({ U with heap := s₂.heap, slotsUsed := s₂.slotsUsed } : State).setVm s₂.vm).setTop { g with pc := g.pc + len₂, stack := v.toList ++ g.stack })
    rw [← hs₂]
    exact hsteps
  · obtain ⟨e2, q2, q3, q4, q5, q6⟩ := id hsm
    have e3 : s₂ = ({ (U.calling g mk a).setFrames s₂.frames with heap := s₂.heap, slotsUsed := s₂.slotsUsed } : State).setVm s₂.vm := by
      have : s₂ = ({ s₂ with vm := (U.calling g mk a).vm } : State).setVm s₂.vm := rfl
      rw [e2] at this
      exact this
    have hf₂ : s₂.frames = .throwing q :: .java g :: U.frames.tail := hend
    have hW' : U.WarmedH s₂.vm := hW₂
    have hs₂ : s₂ = ((({ U with heap := s₂.heap, slotsUsed := s₂.slotsUsed } : State).setVm s₂.vm).setTop g).pushFrame (.throwing q) := by
      refine e3.trans ?_
      rw [hf₂, State.calling_eq h.top, State.setFrames_setFrames, State.pushFrame, State.frames_setTop _ hr', State.setTop_of_frames _ hr', State.setFrames_setFrames, hr]
      rfl
    have hsame : U.sameButNew ({ U with heap := s₂.heap, slotsUsed := s₂.slotsUsed } : State) L mc ms := by
      refine ⟨?_, q2, q3, q4, q5, q6⟩
      obtain ⟨t, ht, -⟩ := State.frames_cons hr
      show ({ U with heap := s₂.heap, slotsUsed := s₂.slotsUsed } : State) = { U.setFrames U.frames with heap := s₂.heap, slotsUsed := s₂.slotsUsed }
      rw [State.setFrames_self ht]
    subst hg
    refine Or.inr ⟨q, ⟨(({ U with heap := s₂.heap, slotsUsed := s₂.slotsUsed } : State).setVm s₂.vm), Ls ++ L, c0 + mc, s0 + ms⟩,
      ⟨X.admits, X.cas, X.clock, X.frames, X.room, X.hears, X.method, X.code, (X.here.setHeapUsed s₂.heap s₂.slotsUsed).setVm hW'.alike, X.tail, State.WarmedH.trans X.warmed hW', X.limits, X.bytes, X.same.trans (hsame.setVm s.vm)⟩,
      ⟨g, mk, s₂, L, E, ce, rfl, rfl, hx, hce, hcv, hcl, rfl, hL, rfl, rfl⟩, ?_⟩
    show Steps p.tables e below _ (((({ U with heap := s₂.heap, slotsUsed := s₂.slotsUsed } : State).setVm s₂.vm).setTop g).pushFrame (.throwing q))
    rw [← hs₂]
    exact hsteps
end Payer
section Calls
variable {p : Program} {l : Launch} {e : Env} {R : Room} {s : State} {m : MethodId} {args : Array Value} {below : List Frame} {meth : Method} {c : Code} {T : State} {locs : List Loc} {cells slots : Nat}
theorem vx_callV (X : Stand p l e R s m args below meth c T locs cells slots) (hexec : p.tables.exec = Jvm.exec) {own C : String} {index : Nat} {y : MethodName} {bytes : ByteArray} {maxL : Nat} {ret : Option FieldType}
    (hown : s.vm.findClass own = some m.cls) (hlink : (Cond.methodLink own index y).before args s = true) (hinst : (Cond.instanceMethod y).before args s = true) (hsel : (Cond.selects C y y).before args s = true)
    (hcode : (Cond.code y bytes maxL ret).before args s = true) (hy : y.cls ≠ "java/lang/invoke/MethodHandle" ∧ y.cls ≠ "java/lang/invoke/VarHandle")
    {W9 : Nat} {Pre : Pt → Array Value → Prop} {Post : Pt → Array Value → Option Value → Pt → Prop} {PostX : Pt → Array Value → Addr → Pt → Prop} (hK : vx_Back l R p e below s args y 3 W9 Pre Post PostX)
    {b : Addr} {cellB : Cell} (hcell : T.heap[b]? = some cellB) (hobj : cellB.vm.isStatics = false) (hcls : s.vm.findClass C = some cellB.cls)
    {g : JFrame} (hg : g.method = m) (hsize : g.locals.size = c.maxLocals) {argsL rest : List Value} (hlen : ∀ sig, parseMethodDescriptor y.desc = some sig → argsL.length = sig.parameters.length)
    (hstack : g.stack = argsL.reverse ++ .ref b :: rest) (hW : 2 * g.monitorRoom + (rest.map fun v => v.category).sum ≤ W9) (hdg : decode c.code g.pc = .ok (.invokevirtual index, 3))
    (hpre : ∀ vm₁, s.WarmedH vm₁ → Pre ⟨T.setVm vm₁, locs, cells, slots⟩ (Value.ref b :: argsL).toArray) :
    (∃ (v : Option Value) (vm₁ : Vm) (B : Pt), s.WarmedH vm₁ ∧ Stand p l e R s m args below meth c B.U B.locs B.cells B.slots ∧ Post ⟨T.setVm vm₁, locs, cells, slots⟩ (Value.ref b :: argsL).toArray v B ∧
      ∀ target, Steps p.tables e below (B.U.setTop { g with pc := g.pc + 3, stack := v.toList ++ rest }) target → Steps p.tables e below (T.setTop g) target) ∨
    (∃ (q : Addr) (vm₁ : Vm) (B : Pt), s.WarmedH vm₁ ∧ Stand p l e R s m args below meth c B.U B.locs B.cells B.slots ∧ PostX ⟨T.setVm vm₁, locs, cells, slots⟩ (Value.ref b :: argsL).toArray q B ∧
      Steps p.tables e below (T.setTop g) ((B.U.setTop { g with stack := rest }).pushFrame (.throwing q))) := by
  obtain ⟨mk, methM, hnamed, hmethM, hstM, habM⟩ := Cond.instanceMethod_spec hinst
  obtain ⟨methM', cM, hmethM', -, -, -, -, -, -, hsigM⟩ := Cond.code_spec hnamed hcode
  cases hmethM.symm.trans hmethM'
  obtain ⟨c2, r2, m2, q1, q2, q3, q4, kP, hkP, hkPi⟩ := Cond.selects_spec hsel
  cases hcls.symm.trans q1
  cases (State.methodFound?_of_named hnamed hy).symm.trans q2
  cases hnamed.symm.trans q3
  have hselP : selectMethod e.platform s.vm cellB.cls mk = .method mk := by rw [Launch.admits_selectMethod X.admits]; exact q4
  obtain ⟨vm₁, X₁, hstep₁⟩ := X.invokevirtual hexec hown hlink hnamed hmethM hstM hkP hkPi hy (a := b) (cell := cellB) hcell
    (fun z h => by rw [h] at hobj; cases hobj) hselP hmethM habM hkP hkPi (g := g) hg (argsL := argsL) (rest := rest) (hlen _ hsigM) hstack hdg
  rcases hK m meth c ⟨T.setVm vm₁, locs, cells, slots⟩ { g with stack := rest } (.invokevirtual index) mk (Value.ref b :: argsL).toArray X₁ hg hsize hdg hW (X₁.named hnamed) (hpre vm₁ X₁.warmed) with ⟨v, B, X', hpost, hsteps⟩ | ⟨q, B, X', hpost, hsteps⟩
  · exact Or.inl ⟨v, vm₁, B, X₁.warmed, X', hpost, fun target h => hstep₁ _ fun acts => by rw [doInvoke_state]; exact hsteps.trans h⟩
  · exact Or.inr ⟨q, vm₁, B, X₁.warmed, X', hpost, hstep₁ _ fun acts => by rw [doInvoke_state]; exact hsteps⟩
theorem vx_callS (X : Stand p l e R s m args below meth c T locs cells slots) (hexec : p.tables.exec = Jvm.exec) {own : String} {index : Nat} {y : MethodName} {bytes : ByteArray} {maxL : Nat} {ret : Option FieldType}
    (hown : s.vm.findClass own = some m.cls) (hlink : (Cond.methodLink own index y).before args s = true) (hstat : (Cond.static y).before args s = true) (hinit : (Cond.initialized y.cls).before args s = true)
    (hcode : (Cond.code y bytes maxL ret).before args s = true) (hy : y.cls ≠ "java/lang/invoke/MethodHandle" ∧ y.cls ≠ "java/lang/invoke/VarHandle")
    {W9 : Nat} {Pre : Pt → Array Value → Prop} {Post : Pt → Array Value → Option Value → Pt → Prop} {PostX : Pt → Array Value → Addr → Pt → Prop} (hK : vx_Back l R p e below s args y 3 W9 Pre Post PostX)
    {g : JFrame} (hg : g.method = m) (hsize : g.locals.size = c.maxLocals) {argsL rest : List Value} (hlen : ∀ sig, parseMethodDescriptor y.desc = some sig → argsL.length = sig.parameters.length)
    (hstack : g.stack = argsL.reverse ++ rest) (hW : 2 * g.monitorRoom + (rest.map fun v => v.category).sum ≤ W9) (hdg : decode c.code g.pc = .ok (.invokestatic index, 3))
    (hpre : ∀ vm₁, s.WarmedH vm₁ → Pre ⟨T.setVm vm₁, locs, cells, slots⟩ argsL.toArray) :
    (∃ (v : Option Value) (vm₁ : Vm) (B : Pt), s.WarmedH vm₁ ∧ Stand p l e R s m args below meth c B.U B.locs B.cells B.slots ∧ Post ⟨T.setVm vm₁, locs, cells, slots⟩ argsL.toArray v B ∧
      ∀ target, Steps p.tables e below (B.U.setTop { g with pc := g.pc + 3, stack := v.toList ++ rest }) target → Steps p.tables e below (T.setTop g) target) ∨
    (∃ (q : Addr) (vm₁ : Vm) (B : Pt), s.WarmedH vm₁ ∧ Stand p l e R s m args below meth c B.U B.locs B.cells B.slots ∧ PostX ⟨T.setVm vm₁, locs, cells, slots⟩ argsL.toArray q B ∧
      Steps p.tables e below (T.setTop g) ((B.U.setTop { g with stack := rest }).pushFrame (.throwing q))) := by
  obtain ⟨mk, hnamed⟩ := Cond.code_named hcode
  obtain ⟨methM, cM, hmethM, -, -, -, -, -, -, hsigM⟩ := Cond.code_spec hnamed hcode
  have hstatic : methM.isStatic = true := Cond.static_spec hnamed hmethM hstat
  obtain ⟨kP, hkP, -⟩ := className_of_methodNamed hnamed
  have hinitP : kP.init = .initialized := Cond.initialized_spec (findClass_of_methodNamed hnamed) hkP hinit
  obtain ⟨vm₁, X₁, hstep₁⟩ := X.invokestatic hexec hown hlink hnamed hmethM hstatic hkP hinitP hy (g := g) hg (argsL := argsL) (rest := rest) (hlen _ hsigM) hstack hdg
  rcases hK m meth c ⟨T.setVm vm₁, locs, cells, slots⟩ { g with stack := rest } (.invokestatic index) mk argsL.toArray X₁ hg hsize hdg hW (X₁.named hnamed) (hpre vm₁ X₁.warmed) with ⟨v, B, X', hpost, hsteps⟩ | ⟨q, B, X', hpost, hsteps⟩
  · exact Or.inl ⟨v, vm₁, B, X₁.warmed, X', hpost, fun target h => hstep₁ _ fun acts => by rw [doInvoke_state]; exact hsteps.trans h⟩
  · exact Or.inr ⟨q, vm₁, B, X₁.warmed, X', hpost, hstep₁ _ fun acts => by rw [doInvoke_state]; exact hsteps⟩
end Calls
theorem vx_cls {s : State} {T : State} {vm₁ : Vm} {E : String} {k : ClassId} (hW : s.WarmedH vm₁) (h : (T.setVm vm₁).vm.findClass E = some k) : s.vm.findClass E = some k := by
  have h1 : vm₁.findClass E = some k := h
  rw [hW.alike.findClass] at h1
  exact h1
/-- the method's frame g, with q thrown over it -/
def vx_W (p : Program) (l : Launch) (e : Env) (R : Room) (s : State) (m : MethodId) (args : Array Value) (below : List Frame) (meth : Method) (c : Code) (H : Heap) (locs : List Loc) (cells slots : Nat) (Q : State → Prop) (g : JFrame) (q : Addr) : Prop :=
  ∀ T : State, T.heap = H → Stand p l e R s m args below meth c T locs cells slots → ∃ t, Steps p.tables e below ((T.setTop g).pushFrame (.throwing q)) t ∧ Q t
def vx_Run (p : Program) (l : Launch) (e : Env) (R : Room) (s : State) (m : MethodId) (args : Array Value) (below : List Frame) (meth : Method) (c : Code) (H : Heap) (locs : List Loc) (cells slots mc ms : Nat) (g : JFrame) (rest : List Value) (Qa : State → Outcome → State → Prop) (XC : String → State → State → Prop) (free : Addr → Prop) : Prop :=
  ∀ T : State, T.heap = H → Stand p l e R s m args below meth c T locs cells slots →
    (∃ (v : Option Value) (st₀ t T' : State) (L : List Loc), st₀.heap = H ∧ Stand p l e R s m args below meth c T' (locs ++ L) (cells + mc) (slots + ms) ∧ (∀ q ∈ L, free q.base) ∧ T'.heap = t.heap ∧ T'.vm = t.vm ∧ Qa st₀ (.returned v) t ∧
      Goes p e below T g T' { g with pc := g.pc + 3, stack := v.toList ++ rest }) ∨
    (∃ (q : Addr) (st₀ t T' : State) (L : List Loc) (E : String) (ce : Cell), st₀.heap = H ∧ Stand p l e R s m args below meth c T' (locs ++ L) (cells + mc) (slots + ms) ∧ (∀ z ∈ L, free z.base) ∧ T'.heap = t.heap ∧ T'.vm = t.vm ∧ XC E st₀ t ∧ t.heap[q]? = some ce ∧ ce.vm = .none ∧ s.vm.findClass E = some ce.cls ∧
      Steps p.tables e below (T.setTop g) ((T'.setTop { g with stack := rest }).pushFrame (.throwing q)))
def vx_X {S : Type} (px : S → Prop) (B : String → S → State → Prop) (A : Nat → Prop) : String → State → State → Prop := fun E st t => ∃ u : S, px u ∧ B E u t ∧ va_F A st t
section Runs
variable {p : Program} {l : Launch} {e : Env} {R : Room} {s : State} {m : MethodId} {args : Array Value} {below : List Frame} {meth : Method} {c : Code} {H : Heap} {locs : List Loc} {cells slots : Nat}
variable {y : MethodName} {bytes cc : ByteArray} {maxL nL mc ms n index : Nat} {ret : Option FieldType} {ws : List Cond} {rm : Room} {Pc : Array Value → State → Prop} {Qc : Array Value → State → Outcome → State → Prop} {XC : String → State → State → Prop} {free : Addr → Prop} {Ts : List Cond} {own C : String} {b : Addr} {As rest : List Value} {g : JFrame}
theorem vx_callBack (cb : CallB R s args own index y bytes maxL ret ws rm mc ms n) (hM : vx_Met l y ws rm Pc Qc XC mc ms free) (hbl : FrameBlind Pc) : vx_Back l R p e below s args y 3 8 (PreOf R mc ms Pc) (PostOf Qc mc ms free) (vx_Post XC mc ms free) := by
  obtain ⟨hrc, hrs, hfr, hlo, hws, hcw, -, hini, -⟩ := cb
  exact vx_back (bytes := bytes) (maxL := maxL) (ret := ret) hM hbl hrc hrs hfr hlo hws hcw (fun a' U hW => word_at hW (Or.inl (by first | rfl | simp [Cond.onTables, Cond.keeps, Cond.steady])) hini)
theorem vx_runV (S : CallFix p m c cc nL s args Ts own) (hM : vx_Met l y ws rm Pc Qc XC mc ms free) (cw : CallW R s args own C index y bytes maxL ret ws rm mc ms n) (hp : PreV s H C b Pc As)
    (hg : g.method = m) (hn : As.length = n) (hsize : g.locals.size = nL) (hstack : g.stack = As.reverse ++ .ref b :: rest) (hW : 2 * g.monitorRoom + (rest.map fun v => v.category).sum ≤ 8) (hdg : decode cc g.pc = .ok (.invokevirtual index, 3)) (hf : cells + mc ≤ R.cells ∧ slots + ms ≤ R.slots) :
    vx_Run p l e R s m args below meth c H locs cells slots mc ms g rest (Qc (Value.ref b :: As).toArray) XC free := by
  have hK : vx_Back l R p e below s args y 3 8 (PreOf R mc ms Pc) (PostOf Qc mc ms free) (vx_Post XC mc ms free) := vx_callBack cw.1 hM hp.1
  obtain ⟨⟨-, -, -, -, -, -, hcode, -, hy, hlen, hl⟩, hin, hse⟩ := cw
  obtain ⟨hx, hb, hml, ho, -⟩ := S
  obtain ⟨-, ⟨cellB, hcB, hoB, hclB⟩, hPc⟩ := hp
  intro T hT X
  rcases vx_callV X hx (C := C) (bytes := bytes) (maxL := maxL) (ret := ret) ho hl hin hse hcode hy hK (by rw [hT]; exact hcB) hoB hclB hg (hsize.trans hml.symm) (argsL := As) (rest := rest) (fun sig h => hn.trans (hlen sig h)) hstack hW (by rw [hb]; exact hdg)
    (fun vm₁ hW₁ => ⟨hf.1, hf.2, hPc (T.setVm vm₁) hT hW₁⟩) with ⟨v, vm₁, ⟨U', l2, c2, s2⟩, hW₁, X', ⟨g', mk, t, L, e1, e2, hq, h1, hL, h2, h3⟩, st⟩ | ⟨q, vm₁, ⟨U', l2, c2, s2⟩, hW₁, X', ⟨g', mk, t, L, E, ce, e1, e2, hq, hce, hcv, hcl, h1, hL, h2, h3⟩, st⟩
  · dsimp only [Pt.U, Pt.locs, Pt.cells, Pt.slots] at X' e1 e2 h1 h2 h3 st
    subst h1; subst h2; subst h3
    exact Or.inl ⟨v, (T.setVm vm₁).calling g' mk (Value.ref b :: As).toArray, t, U', L, hT, X', hL, e1, e2, hq, st⟩
  · dsimp only [Pt.U, Pt.locs, Pt.cells, Pt.slots] at X' e1 e2 h1 h2 h3 st hcl
    subst h1; subst h2; subst h3
    exact Or.inr ⟨q, (T.setVm vm₁).calling g' mk (Value.ref b :: As).toArray, t, U', L, E, ce, hT, X', hL, e1, e2, hq, hce, hcv, vx_cls hW₁ hcl, st⟩
theorem vx_runS (S : CallFix p m c cc nL s args Ts own) (hM : vx_Met l y ws rm Pc Qc XC mc ms free) (cw : CallB R s args own index y bytes maxL ret ws rm mc ms n ∧ (Cond.static y).before args s = true) (hp : PreS s H Pc As)
    (hg : g.method = m) (hn : As.length = n) (hsize : g.locals.size = nL) (hstack : g.stack = As.reverse ++ rest) (hW : 2 * g.monitorRoom + (rest.map fun v => v.category).sum ≤ 8) (hdg : decode cc g.pc = .ok (.invokestatic index, 3)) (hf : cells + mc ≤ R.cells ∧ slots + ms ≤ R.slots) :
    vx_Run p l e R s m args below meth c H locs cells slots mc ms g rest (Qc As.toArray) XC free := by
  have hK : vx_Back l R p e below s args y 3 8 (PreOf R mc ms Pc) (PostOf Qc mc ms free) (vx_Post XC mc ms free) := vx_callBack cw.1 hM hp.1
  obtain ⟨⟨-, -, -, -, -, -, hcode, hini, hy, hlen, hl⟩, hstt⟩ := cw
  obtain ⟨hx, hb, hml, ho, -⟩ := S
  intro T hT X
  rcases vx_callS X hx (bytes := bytes) (maxL := maxL) (ret := ret) ho hl hstt hini hcode hy hK hg (hsize.trans hml.symm) (argsL := As) (rest := rest) (fun sig h => hn.trans (hlen sig h)) hstack hW (by rw [hb]; exact hdg)
    (fun vm₁ hW₁ => ⟨hf.1, hf.2, hp.2 (T.setVm vm₁) hT hW₁⟩) with ⟨v, vm₁, ⟨U', l2, c2, s2⟩, hW₁, X', ⟨g', mk, t, L, e1, e2, hq, h1, hL, h2, h3⟩, st⟩ | ⟨q, vm₁, ⟨U', l2, c2, s2⟩, hW₁, X', ⟨g', mk, t, L, E, ce, e1, e2, hq, hce, hcv, hcl, h1, hL, h2, h3⟩, st⟩
  · dsimp only [Pt.U, Pt.locs, Pt.cells, Pt.slots] at X' e1 e2 h1 h2 h3 st
    subst h1; subst h2; subst h3
    exact Or.inl ⟨v, (T.setVm vm₁).calling g' mk As.toArray, t, U', L, hT, X', hL, e1, e2, hq, st⟩
  · dsimp only [Pt.U, Pt.locs, Pt.cells, Pt.slots] at X' e1 e2 h1 h2 h3 st hcl
    subst h1; subst h2; subst h3
    exact Or.inr ⟨q, (T.setVm vm₁).calling g' mk As.toArray, t, U', L, E, ce, hT, X', hL, e1, e2, hq, hce, hcv, vx_cls hW₁ hcl, st⟩
end Runs
section Rows
variable {p : Program} {l : Launch} {e : Env} {R : Room} {s : State} {m : MethodId} {args : Array Value} {below : List Frame} {meth : Method} {c : Code} {H : Heap} {locs : List Loc} {cells slots : Nat} {Q : State → Prop}
variable {mc ms : Nat} {free : Addr → Prop} {A0 A1 : Nat → Prop} {H0 : Heap} {a : Array Value} {pc : Nat} {ls : Array Slot} {st0 rest : List Value}
theorem vx_keep {st₀ t T' : State} {L : List Loc} (h0 : st₀.heap = H) (e1 : T'.heap = t.heap) (hS : va_S A0 H0 H locs) (hA : ∀ q, q < H.size → A1 q → A0 q) (hf : ∀ q, free q → A0 q) (hL : ∀ q ∈ L, free q.base) (hF : va_F A1 st₀ t) :
    H.size ≤ T'.heap.size ∧ (∀ q : Nat, q < H.size → ¬ A1 q → T'.heap[q]? = H[q]?) ∧ va_S A0 H0 T'.heap (locs ++ L) := by
  obtain ⟨hz, hk⟩ := hF
  rw [h0] at hz hk
  exact ⟨by rw [e1]; exact hz, fun q h1 h2 => by rw [e1]; exact hk q h1 h2,
    ⟨Nat.le_trans hS.1 (by rw [e1]; exact hz), fun q h1 h2 => by rw [e1, hk q (Nat.lt_of_lt_of_le h1 hS.1) (fun z => h2 (hA q (Nat.lt_of_lt_of_le h1 hS.1) z))]; exact hS.2.1 q h1 h2, fun q hq => by
      rcases List.mem_append.mp hq with h | h
      · exact hS.2.2 q h
      · exact hf _ (hL q h)⟩⟩
theorem vx_calli {S SX : Type} {post : Int32 → S → Prop} {px : SX → Prop} {B : S → State → Prop} {BX : String → SX → State → Prop} {AX : Nat → Prop} (hr : vx_Run p l e R s m args below meth c H locs cells slots mc ms (F0 m pc ls st0) rest (va_Qi post B A1 a) (vx_X px BX AX) free) (hS : va_S A0 H0 H locs) (hA : ∀ q, q < H.size → A1 q → A0 q) (hf : ∀ q, free q → A0 q) (hAX : ∀ q, q < H.size → AX q → A0 q)
    (kx : ∀ (E : String) (ce : Cell) (q9 : Addr) (u : SX) (t : State) (H1 : Heap) (locs1 : List Loc), t.heap = H1 → s.vm.Alike t.vm → px u → BX E u t → H.size ≤ H1.size → (∀ q : Nat, q < H.size → ¬ AX q → H1[q]? = H[q]?) → va_S A0 H0 H1 locs1 → H1[q9]? = some ce → ce.vm = .none → s.vm.findClass E = some ce.cls → vx_W p l e R s m args below meth c H1 locs1 (cells + mc) (slots + ms) Q (F0 m pc ls rest) q9)
    (kk : ∀ (r : Int32) (u : S) (t : State) (H1 : Heap) (locs1 : List Loc), t.heap = H1 → s.vm.Alike t.vm → post r u → B u t → H.size ≤ H1.size → (∀ q : Nat, q < H.size → ¬ A1 q → H1[q]? = H[q]?) → va_S A0 H0 H1 locs1 → W p l e R s m args below meth c H1 locs1 (cells + mc) (slots + ms) Q (F0 m (pc + 3) ls (.int r :: rest))) : W p l e R s m args below meth c H locs cells slots Q (F0 m pc ls st0) := by
  intro T hT X
  rcases hr T hT X with ⟨v, st₀, t, T', L, h0, X', hL, e1, e2, ⟨⟨r, u, hv, hp, hb⟩, hF⟩, st⟩ | ⟨q, st₀, t, T', L, E, ce, h0, X', hL, e1, e2, ⟨u, hp, hb, hF⟩, hce, hcv, hcl, st⟩
  · cases hv
    obtain ⟨k1, k2, k3⟩ := vx_keep h0 e1 hS hA hf hL hF
    obtain ⟨t2, a1, b1⟩ := kk r u t T'.heap (locs ++ L) e1.symm (by rw [← e2]; exact X'.warmed.alike) hp hb k1 k2 k3 T' rfl X'
    exact ⟨t2, st t2 a1, b1⟩
  · obtain ⟨k1, k2, k3⟩ := vx_keep h0 e1 hS hAX hf hL hF
    obtain ⟨t2, a1, b1⟩ := kx E ce q u t T'.heap (locs ++ L) e1.symm (by rw [← e2]; exact X'.warmed.alike) hp hb k1 k2 k3 (by rw [e1]; exact hce) hcv hcl T' rfl X'
    exact ⟨t2, st.trans a1, b1⟩
theorem vx_calll {S SX : Type} {post : Int64 → S → Prop} {px : SX → Prop} {B : S → State → Prop} {BX : String → SX → State → Prop} {AX : Nat → Prop} (hr : vx_Run p l e R s m args below meth c H locs cells slots mc ms (F0 m pc ls st0) rest (va_Ql post B A1 a) (vx_X px BX AX) free) (hS : va_S A0 H0 H locs) (hA : ∀ q, q < H.size → A1 q → A0 q) (hf : ∀ q, free q → A0 q) (hAX : ∀ q, q < H.size → AX q → A0 q)
    (kx : ∀ (E : String) (ce : Cell) (q9 : Addr) (u : SX) (t : State) (H1 : Heap) (locs1 : List Loc), t.heap = H1 → s.vm.Alike t.vm → px u → BX E u t → H.size ≤ H1.size → (∀ q : Nat, q < H.size → ¬ AX q → H1[q]? = H[q]?) → va_S A0 H0 H1 locs1 → H1[q9]? = some ce → ce.vm = .none → s.vm.findClass E = some ce.cls → vx_W p l e R s m args below meth c H1 locs1 (cells + mc) (slots + ms) Q (F0 m pc ls rest) q9)
    (kk : ∀ (r : Int64) (u : S) (t : State) (H1 : Heap) (locs1 : List Loc), t.heap = H1 → s.vm.Alike t.vm → post r u → B u t → H.size ≤ H1.size → (∀ q : Nat, q < H.size → ¬ A1 q → H1[q]? = H[q]?) → va_S A0 H0 H1 locs1 → W p l e R s m args below meth c H1 locs1 (cells + mc) (slots + ms) Q (F0 m (pc + 3) ls (.long r :: rest))) : W p l e R s m args below meth c H locs cells slots Q (F0 m pc ls st0) := by
  intro T hT X
  rcases hr T hT X with ⟨v, st₀, t, T', L, h0, X', hL, e1, e2, ⟨⟨r, u, hv, hp, hb⟩, hF⟩, st⟩ | ⟨q, st₀, t, T', L, E, ce, h0, X', hL, e1, e2, ⟨u, hp, hb, hF⟩, hce, hcv, hcl, st⟩
  · cases hv
    obtain ⟨k1, k2, k3⟩ := vx_keep h0 e1 hS hA hf hL hF
    obtain ⟨t2, a1, b1⟩ := kk r u t T'.heap (locs ++ L) e1.symm (by rw [← e2]; exact X'.warmed.alike) hp hb k1 k2 k3 T' rfl X'
    exact ⟨t2, st t2 a1, b1⟩
  · obtain ⟨k1, k2, k3⟩ := vx_keep h0 e1 hS hAX hf hL hF
    obtain ⟨t2, a1, b1⟩ := kx E ce q u t T'.heap (locs ++ L) e1.symm (by rw [← e2]; exact X'.warmed.alike) hp hb k1 k2 k3 (by rw [e1]; exact hce) hcv hcl T' rfl X'
    exact ⟨t2, st.trans a1, b1⟩
theorem vx_callf {S SX : Type} {post : UInt32 → S → Prop} {px : SX → Prop} {B : S → State → Prop} {BX : String → SX → State → Prop} {AX : Nat → Prop} (hr : vx_Run p l e R s m args below meth c H locs cells slots mc ms (F0 m pc ls st0) rest (va_Qf post B A1 a) (vx_X px BX AX) free) (hS : va_S A0 H0 H locs) (hA : ∀ q, q < H.size → A1 q → A0 q) (hf : ∀ q, free q → A0 q) (hAX : ∀ q, q < H.size → AX q → A0 q)
    (kx : ∀ (E : String) (ce : Cell) (q9 : Addr) (u : SX) (t : State) (H1 : Heap) (locs1 : List Loc), t.heap = H1 → s.vm.Alike t.vm → px u → BX E u t → H.size ≤ H1.size → (∀ q : Nat, q < H.size → ¬ AX q → H1[q]? = H[q]?) → va_S A0 H0 H1 locs1 → H1[q9]? = some ce → ce.vm = .none → s.vm.findClass E = some ce.cls → vx_W p l e R s m args below meth c H1 locs1 (cells + mc) (slots + ms) Q (F0 m pc ls rest) q9)
    (kk : ∀ (r : UInt32) (u : S) (t : State) (H1 : Heap) (locs1 : List Loc), t.heap = H1 → s.vm.Alike t.vm → post r u → B u t → H.size ≤ H1.size → (∀ q : Nat, q < H.size → ¬ A1 q → H1[q]? = H[q]?) → va_S A0 H0 H1 locs1 → W p l e R s m args below meth c H1 locs1 (cells + mc) (slots + ms) Q (F0 m (pc + 3) ls (.float r :: rest))) : W p l e R s m args below meth c H locs cells slots Q (F0 m pc ls st0) := by
  intro T hT X
  rcases hr T hT X with ⟨v, st₀, t, T', L, h0, X', hL, e1, e2, ⟨⟨r, u, hv, hp, hb⟩, hF⟩, st⟩ | ⟨q, st₀, t, T', L, E, ce, h0, X', hL, e1, e2, ⟨u, hp, hb, hF⟩, hce, hcv, hcl, st⟩
  · cases hv
    obtain ⟨k1, k2, k3⟩ := vx_keep h0 e1 hS hA hf hL hF
    obtain ⟨t2, a1, b1⟩ := kk r u t T'.heap (locs ++ L) e1.symm (by rw [← e2]; exact X'.warmed.alike) hp hb k1 k2 k3 T' rfl X'
    exact ⟨t2, st t2 a1, b1⟩
  · obtain ⟨k1, k2, k3⟩ := vx_keep h0 e1 hS hAX hf hL hF
    obtain ⟨t2, a1, b1⟩ := kx E ce q u t T'.heap (locs ++ L) e1.symm (by rw [← e2]; exact X'.warmed.alike) hp hb k1 k2 k3 (by rw [e1]; exact hce) hcv hcl T' rfl X'
    exact ⟨t2, st.trans a1, b1⟩
theorem vx_calld {S SX : Type} {post : UInt64 → S → Prop} {px : SX → Prop} {B : S → State → Prop} {BX : String → SX → State → Prop} {AX : Nat → Prop} (hr : vx_Run p l e R s m args below meth c H locs cells slots mc ms (F0 m pc ls st0) rest (va_Qd post B A1 a) (vx_X px BX AX) free) (hS : va_S A0 H0 H locs) (hA : ∀ q, q < H.size → A1 q → A0 q) (hf : ∀ q, free q → A0 q) (hAX : ∀ q, q < H.size → AX q → A0 q)
    (kx : ∀ (E : String) (ce : Cell) (q9 : Addr) (u : SX) (t : State) (H1 : Heap) (locs1 : List Loc), t.heap = H1 → s.vm.Alike t.vm → px u → BX E u t → H.size ≤ H1.size → (∀ q : Nat, q < H.size → ¬ AX q → H1[q]? = H[q]?) → va_S A0 H0 H1 locs1 → H1[q9]? = some ce → ce.vm = .none → s.vm.findClass E = some ce.cls → vx_W p l e R s m args below meth c H1 locs1 (cells + mc) (slots + ms) Q (F0 m pc ls rest) q9)
    (kk : ∀ (r : UInt64) (u : S) (t : State) (H1 : Heap) (locs1 : List Loc), t.heap = H1 → s.vm.Alike t.vm → post r u → B u t → H.size ≤ H1.size → (∀ q : Nat, q < H.size → ¬ A1 q → H1[q]? = H[q]?) → va_S A0 H0 H1 locs1 → W p l e R s m args below meth c H1 locs1 (cells + mc) (slots + ms) Q (F0 m (pc + 3) ls (.double r :: rest))) : W p l e R s m args below meth c H locs cells slots Q (F0 m pc ls st0) := by
  intro T hT X
  rcases hr T hT X with ⟨v, st₀, t, T', L, h0, X', hL, e1, e2, ⟨⟨r, u, hv, hp, hb⟩, hF⟩, st⟩ | ⟨q, st₀, t, T', L, E, ce, h0, X', hL, e1, e2, ⟨u, hp, hb, hF⟩, hce, hcv, hcl, st⟩
  · cases hv
    obtain ⟨k1, k2, k3⟩ := vx_keep h0 e1 hS hA hf hL hF
    obtain ⟨t2, a1, b1⟩ := kk r u t T'.heap (locs ++ L) e1.symm (by rw [← e2]; exact X'.warmed.alike) hp hb k1 k2 k3 T' rfl X'
    exact ⟨t2, st t2 a1, b1⟩
  · obtain ⟨k1, k2, k3⟩ := vx_keep h0 e1 hS hAX hf hL hF
    obtain ⟨t2, a1, b1⟩ := kx E ce q u t T'.heap (locs ++ L) e1.symm (by rw [← e2]; exact X'.warmed.alike) hp hb k1 k2 k3 (by rw [e1]; exact hce) hcv hcl T' rfl X'
    exact ⟨t2, st.trans a1, b1⟩
theorem vx_callv {S SX : Type} {post : S → Prop} {px : SX → Prop} {B : S → State → Prop} {BX : String → SX → State → Prop} {AX : Nat → Prop} (hr : vx_Run p l e R s m args below meth c H locs cells slots mc ms (F0 m pc ls st0) rest (va_Qv post B A1 a) (vx_X px BX AX) free) (hS : va_S A0 H0 H locs) (hA : ∀ q, q < H.size → A1 q → A0 q) (hf : ∀ q, free q → A0 q) (hAX : ∀ q, q < H.size → AX q → A0 q)
    (kx : ∀ (E : String) (ce : Cell) (q9 : Addr) (u : SX) (t : State) (H1 : Heap) (locs1 : List Loc), t.heap = H1 → s.vm.Alike t.vm → px u → BX E u t → H.size ≤ H1.size → (∀ q : Nat, q < H.size → ¬ AX q → H1[q]? = H[q]?) → va_S A0 H0 H1 locs1 → H1[q9]? = some ce → ce.vm = .none → s.vm.findClass E = some ce.cls → vx_W p l e R s m args below meth c H1 locs1 (cells + mc) (slots + ms) Q (F0 m pc ls rest) q9)
    (kk : ∀ (u : S) (t : State) (H1 : Heap) (locs1 : List Loc), t.heap = H1 → s.vm.Alike t.vm → post u → B u t → H.size ≤ H1.size → (∀ q : Nat, q < H.size → ¬ A1 q → H1[q]? = H[q]?) → va_S A0 H0 H1 locs1 → W p l e R s m args below meth c H1 locs1 (cells + mc) (slots + ms) Q (F0 m (pc + 3) ls (rest))) : W p l e R s m args below meth c H locs cells slots Q (F0 m pc ls st0) := by
  intro T hT X
  rcases hr T hT X with ⟨v, st₀, t, T', L, h0, X', hL, e1, e2, ⟨⟨u, hv, hp, hb⟩, hF⟩, st⟩ | ⟨q, st₀, t, T', L, E, ce, h0, X', hL, e1, e2, ⟨u, hp, hb, hF⟩, hce, hcv, hcl, st⟩
  · cases hv
    obtain ⟨k1, k2, k3⟩ := vx_keep h0 e1 hS hA hf hL hF
    obtain ⟨t2, a1, b1⟩ := kk u t T'.heap (locs ++ L) e1.symm (by rw [← e2]; exact X'.warmed.alike) hp hb k1 k2 k3 T' rfl X'
    exact ⟨t2, st t2 a1, b1⟩
  · obtain ⟨k1, k2, k3⟩ := vx_keep h0 e1 hS hAX hf hL hF
    obtain ⟨t2, a1, b1⟩ := kx E ce q u t T'.heap (locs ++ L) e1.symm (by rw [← e2]; exact X'.warmed.alike) hp hb k1 k2 k3 (by rw [e1]; exact hce) hcv hcl T' rfl X'
    exact ⟨t2, st.trans a1, b1⟩
/-- caught by the row x of this method's table; the rows ahead don't take it -/
theorem vx_catch {own name : String} {E : String} {ce : Cell} {q : Addr} (hown : s.vm.findClass own = some m.cls) (pre : List ExceptionTableEntry) (x : ExceptionTableEntry) (suf : List ExceptionTableEntry) (hsplit : c.exceptionTable.toList = pre ++ x :: suf)
    (hpass : ∀ z ∈ pre, covers z pc = false ∨ (z.catchType ≠ 0 ∧ ∃ nm : String, (Cond.classLink own z.catchType nm).before args s = true ∧ va_Nc E nm s)) (hx : covers x pc = true) (h0 : x.catchType ≠ 0)
    (hlink : (Cond.classLink own x.catchType name).before args s = true) (hcast : (Cond.castable E name).before args s = true) (hcell : H[q]? = some ce) (hv : ce.vm = .none) (hcl : s.vm.findClass E = some ce.cls)
    (kk : W p l e R s m args below meth c H locs cells slots Q (F0 m x.handlerPc ls [.ref q])) : vx_W p l e R s m args below meth c H locs cells slots Q (F0 m pc ls rest) q := by
  intro T hT X
  have hpl : e.platform.magicAccessors = ({} : Platform).magicAccessors := by rw [X.admits.platform]
  obtain ⟨c3, c4, hc3, hc4, hasg⟩ := Cond.castable_spec hcast
  cases Option.some.inj (hc3.symm.trans hcl)
  obtain ⟨c5, hc5, hcl5⟩ := Cond.classLink_spec hown hlink e.platform hpl
  cases Option.some.inj (hc4.symm.trans hc5)
  obtain ⟨vm', X', st⟩ := X.thenCaughtThrough q (g := F0 m pc ls rest) rfl (Steps.refl _) (by rw [hT]; exact hcell) (by rw [hv]; rfl) (by obtain ⟨k9, h9, -⟩ := Vm.findClass_spec hcl; exact ⟨k9, h9⟩) pre x suf hsplit
    (fun z hz => by
      rcases hpass z hz with h | ⟨hz0, nm, hl1, hn1⟩
      · exact Or.inl h
      · obtain ⟨c6, hc6, hcl6⟩ := Cond.classLink_spec hown hl1 e.platform hpl
        obtain ⟨a8, b8, h1, h2, h3⟩ := hn1
        cases Option.some.inj (h1.symm.trans hcl)
        cases Option.some.inj (h2.symm.trans hc6)
        exact Or.inr ⟨hz0, _, hcl6, h3⟩) hx (Or.inr ⟨h0, c4, hcl5, hasg⟩)
  obtain ⟨t, a1, b1⟩ := kk (T.setVm vm') hT X'
  exact ⟨t, st.trans a1, b1⟩
end Rows
section Ends
variable {p : Program} {l : Launch} {e : Env} {R : Room} {s : State} {m : MethodId} {args : Array Value} {below : List Frame} {meth : Method} {c : Code} {H : Heap} {locs : List Loc} {cells slots : Nat} {Q : State → Prop}
variable {mc ms : Nat} {free : Addr → Prop} {A0 A1 : Nat → Prop} {H0 : Heap} {a : Array Value} {ls : Array Slot} {st0 rest : List Value}
variable {Qc : Array Value → State → Outcome → State → Prop} {XC : String → State → State → Prop}
/-- what a body that may throw owes at its end -/
def vx_MQ (below : List Frame) (Qc : Array Value → State → Outcome → State → Prop) (XC : String → State → State → Prop) (a : Array Value) (s : State) (mc ms : Nat) (free : Addr → Prop) : State → Prop := fun t =>
  ∃ o, t.status = .running ∧ Ended t below o ∧ vx_Q Qc XC mc ms free a s o t
theorem vx_ret {g : JFrame} {mc ms : Nat} (k : W p l e R s m args below meth c H locs cells slots (MQ below Qc args s mc ms free) g) : W p l e R s m args below meth c H locs cells slots (vx_MQ below Qc XC args s mc ms free) g := by
  intro T hT X
  obtain ⟨t, a1, o, b1, b2, b3, b4⟩ := k T hT X
  exact ⟨t, a1, o, b1, b2, Or.inl ⟨b3, b4⟩⟩
/-- not caught here: it goes on to the caller -/
theorem vx_widen {g : JFrame} {q : Addr} {k n : Nat} (h1 : cells ≤ k) (h2 : slots ≤ n) (kk : vx_W p l e R s m args below meth c H locs k n Q g q) : vx_W p l e R s m args below meth c H locs cells slots Q g q := fun T hT X => kk T hT (stand_widen X h1 h2)
theorem vx_out {pc : Nat} {E : String} {ce : Cell} {q : Addr} {mc ms : Nat} (hout : ∀ x ∈ c.exceptionTable.toList, covers x pc = false) (hlocks : meth.locks = false) (hcell : H[q]? = some ce) (hv : ce.vm = .none) (hcl : s.vm.findClass E = some ce.cls)
    (hx : ∀ t : State, t.heap = H → s.vm.Alike t.vm → XC E s t) (hf : ∀ z ∈ locs, free z.base) (hc : cells ≤ mc) (hs : slots ≤ ms) :
    vx_W p l e R s m args below meth c H locs cells slots (vx_MQ below Qc XC args s mc ms free) (F0 m pc ls rest) q := by
  intro T hT X
  obtain ⟨st1, hrun, hend, hW, hsm⟩ := X.leaveThrown q (g := F0 m pc ls rest) rfl rfl rfl hout hlocks
  have hcell9 : (T.setFrames (.throwing q :: below)).heap[q]? = some ce := by
    show T.heap[q]? = some ce
    rw [hT]; exact hcell
  exact ⟨_, st1, .threw q, hrun, hend, Or.inr ⟨q, rfl, E, ce, locs, hx _ hT hW.alike, hcell9, hv, hcl, hW, hsm.mono hc hs, hf⟩⟩
theorem vx_frame {U : State} {k n : Nat} (h : s.sameButNew ({ U with vm := s.vm } : State) locs k n) : s.heap.size ≤ U.heap.size ∧ ∀ q : Nat, q < s.heap.size → (∀ z ∈ locs, z.base ≠ q) → U.heap[q]? = s.heap[q]? := by
  obtain ⟨-, h2, -, -, -, h6⟩ := h
  refine ⟨h2, fun q hq hz => ?_⟩
  obtain ⟨c9, e1, e2, e3, e4⟩ := h6 q _ (Array.getElem?_eq_getElem hq)
  have hs : c9.slots = (s.heap[q]).slots := Array.ext_getElem? fun i => e4 i fun hm => hz _ hm rfl
  have h9 : c9 = s.heap[q] := by
    rw [hs] at e2
    exact e2
  have e5 : U.heap[q]? = some c9 := e1
  rw [e5, h9, Array.getElem?_eq_getElem hq]
/-- the words of a throw but the four that speak of the heap -/
def vx_no (w : Cond) : Bool := decide (w ≠ .isRef (.static Bundle.tN "UNASSIGNED_STACK" Bundle.steD)) && decide (w ≠ .isRef (.static Bundle.tN "SUPPRESSED_SENTINEL" Bundle.listD)) && decide (w ≠ .laysStatic Bundle.tN "UNASSIGNED_STACK" Bundle.steD) && decide (w ≠ .laysStatic Bundle.tN "SUPPRESSED_SENTINEL" Bundle.listD)
def vx_at0 (own : String) (ic : Nat) (X : String) (names : List String) : List Cond := (Bundle.ownAtoms0 own ic X names).filter vx_no
def vx_atS (own : String) (ic : Nat) (X : String) (names : List String) : List Cond := (Bundle.ownAtoms own ic X names).filter vx_no
/-- a word that the tables alone decide, or a good one -/
def vx_ot (w : Cond) : Bool := w.onTables || goodWord w
theorem vx_ot_at {args a' : Array Value} {s U : State} {w : Cond} (hW : s.WarmedH U.vm) (hvm : s.vm = U.vm) (hg : vx_ot w = true) (h : w.before args s = true) : w.before a' U = true := by
  simp only [vx_ot, Bool.or_eq_true] at hg
  rcases hg with hg | hg
  · exact va_tabs hg hvm h
  · exact word_at hW (good_of_word hg) h
/-- a list's words: the good ones out of the method's own list, the others by premises of their own -/
theorem vx_hat {args : Array Value} {s : State} {L B : List Cond} (h1 : ∀ w ∈ L.filter goodWord, w.before args s = true) (h2 : ∀ w ∈ L.filter (fun w => !goodWord w), w ∈ B) (h3 : ∀ w ∈ B, w.before args s = true) : ∀ w ∈ L, w.before args s = true := by
  intro w hw
  by_cases g : goodWord w = true
  · exact h1 w (List.mem_filter.mpr ⟨hw, g⟩)
  · refine h3 w (h2 w (List.mem_filter.mpr ⟨hw, ?_⟩))
    show (!goodWord w) = true
    cases hgw : goodWord w
    · rfl
    · exact absurd hgw g
theorem vx_c {args : Array Value} {s : State} {w : Cond} {B : List Cond} (h : w.before args s = true) (t : ∀ w ∈ B, w.before args s = true) : ∀ w' ∈ w :: B, w'.before args s = true := fun w' h' => (List.mem_cons.mp h').elim (fun e => by rw [e]; exact h) (t w')
theorem vx_n {args : Array Value} {s : State} : ∀ w ∈ ([] : List Cond), w.before args s = true := fun _ h => nomatch h
theorem vx_own {args : Array Value} {s : State} {L : List Cond} (h1 : ∀ w ∈ L.filter vx_no, w.before args s = true)
    (hU : (Cond.isRef (.static Bundle.tN "UNASSIGNED_STACK" Bundle.steD)).before args s = true) (hN : (Cond.isRef (.static Bundle.tN "SUPPRESSED_SENTINEL" Bundle.listD)).before args s = true)
    (lU : (Cond.laysStatic Bundle.tN "UNASSIGNED_STACK" Bundle.steD).before args s = true) (lN : (Cond.laysStatic Bundle.tN "SUPPRESSED_SENTINEL" Bundle.listD).before args s = true) : ∀ w ∈ L, w.before args s = true := by
  intro w hw
  by_cases e1 : w = .isRef (.static Bundle.tN "UNASSIGNED_STACK" Bundle.steD)
  · rw [e1]; exact hU
  · by_cases e2 : w = .isRef (.static Bundle.tN "SUPPRESSED_SENTINEL" Bundle.listD)
    · rw [e2]; exact hN
    · by_cases e3 : w = .laysStatic Bundle.tN "UNASSIGNED_STACK" Bundle.steD
      · rw [e3]; exact lU
      · by_cases e4 : w = .laysStatic Bundle.tN "SUPPRESSED_SENTINEL" Bundle.listD
        · rw [e4]; exact lN
        · exact h1 w (List.mem_filter.mpr ⟨hw, by unfold vx_no; rw [decide_eq_true e1, decide_eq_true e2, decide_eq_true e3, decide_eq_true e4]; rfl⟩)
/-- where a static field lies, its class's statics cell in H -/
def vx_L (C n d : String) (A : Nat → Prop) (U : State) (H : Heap) : Prop := ∃ (c : ClassId) (k : Class) (i : Nat) (f : Field) (a : Nat) (cell : Cell), U.vm.findClass C = some c ∧ U.fieldFound? C n d = some (c, k, i, f) ∧ f.isStatic = true ∧ k.statics = some a ∧ H[a]? = some cell ∧ cell.vm.isStatics = true ∧ cell.cls = c ∧ f.slot < cell.slots.size ∧ k.staticTypes[f.slot]? = some f.type ∧ ¬ A a
theorem vx_L.moved {C n d : String} {A : Nat → Prop} {u U : State} {H : Heap} (hvm : u.vm.Alike U.vm) (h : vx_L C n d A u H) : vx_L C n d A U H := by
  obtain ⟨c, k, i, f, a, cell, h1, h2, h3, h4, h5, h6, h7, h8, h9, h10⟩ := h
  obtain ⟨k', hi', he⟩ := State.fieldFound?_setVm hvm h2
  exact ⟨c, k', i, f, a, cell, by rw [hvm.findClass]; exact h1, hi', h3, by rw [he]; exact h4, h5, h6, h7, h8, by rw [he]; exact h9, h10⟩
theorem vx_L.kept {C n d : String} {A : Nat → Prop} {U : State} {H H1 : Heap} (h : vx_L C n d A U H) (hq : ∀ a : Nat, a < H.size → ¬ A a → H1[a]? = H[a]?) : vx_L C n d A U H1 := by
  obtain ⟨c, k, i, f, a, cell, h1, h2, h3, h4, h5, h6, h7, h8, h9, h10⟩ := h
  exact ⟨c, k, i, f, a, cell, h1, h2, h3, h4, by rw [hq a (Array.getElem?_eq_some_iff.mp h5).1 h10]; exact h5, h6, h7, h8, h9, h10⟩
theorem vx_L.narrow {C n d : String} {A B : Nat → Prop} {U : State} {H : Heap} (h : vx_L C n d A U H) (hAB : ∀ q, B q → A q) : vx_L C n d B U H := by
  obtain ⟨c, k, i, f, a, cell, h1, h2, h3, h4, h5, h6, h7, h8, h9, h10⟩ := h
  exact ⟨c, k, i, f, a, cell, h1, h2, h3, h4, h5, h6, h7, h8, h9, fun z => h10 (hAB _ z)⟩
theorem vx_L.word {C n d : String} {A : Nat → Prop} {s : State} {args : Array Value} (h : vx_L C n d A s s.heap) : (Cond.laysStatic C n d).before args s = true := by
  obtain ⟨c, k, i, f, a, cell, h1, h2, h3, h4, h5, h6, h7, h8, h9, -⟩ := h
  show (Cond.laysStatic C n d).holds args s none s [] = true
  exact Cond.laysStatic_of h1 h2 h3 h4 h5 h6 h7 h8 h9
/-- .. and what it holds: null or some reference -/
def vx_Zq (C n d : String) (A : Nat → Prop) (U : State) (H : Heap) : Prop := va_Zq C n d A U H ∧ vx_L C n d A U H
theorem vx_Zq.moved {C n d : String} {A : Nat → Prop} {u U : State} {H : Heap} (hvm : u.vm.Alike U.vm) (h : vx_Zq C n d A u H) : vx_Zq C n d A U H := ⟨va_Zq.moved hvm h.1, vx_L.moved hvm h.2⟩
theorem vx_Zq.kept {C n d : String} {A : Nat → Prop} {U : State} {H H1 : Heap} (h : vx_Zq C n d A U H) (hq : ∀ a : Nat, a < H.size → ¬ A a → H1[a]? = H[a]?) : vx_Zq C n d A U H1 := ⟨va_Zq.kept h.1 hq, vx_L.kept h.2 hq⟩
theorem vx_Zq.narrow {C n d : String} {A B : Nat → Prop} {U : State} {H : Heap} (h : vx_Zq C n d A U H) (hAB : ∀ q, B q → A q) : vx_Zq C n d B U H := ⟨va_Zq.narrow h.1 hAB, vx_L.narrow h.2 hAB⟩
theorem vx_Zqof {args : Array Value} {s : State} {C n d : String} {A : Nat → Prop} (hl : (Cond.laysStatic C n d).before args s = true) (hini : (Cond.initialized C).before args s = true) (h : (Cond.isRef (.static C n d)).before args s = true) (hA : ∀ a : Nat, a < s.heap.size → ¬ A a) : vx_Zq C n d A s s.heap := by
  refine ⟨va_Zqof hl hini h hA, ?_⟩
  obtain ⟨c, k, i, f, a, cell, h1, h2, h3, h4, h5, h6, h7, h8, h9⟩ := Cond.laysStatic_spec hl
  exact ⟨c, k, i, f, a, cell, h1, h2, h3, h4, h5, h6, h7, h8, h9, hA a (Array.getElem?_eq_some_iff.mp h5).1⟩
theorem vx_isRef {C n d : String} {v : Value} {A : Nat → Prop} {s : State} {args : Array Value} (h : va_Z C n d v A s s.heap) (hv : v.isRef = true) : (Cond.isRef (.static C n d)).before args s = true := by
  obtain ⟨cf, kf, fi, f, a, cell, h1, h2, h3, h4, h5, h6, h7, -⟩ := h
  have he : (Term.static C n d).eval args s none [] s = some v := by
    simp [Term.eval, State.fieldNamed?, h1, h2, h4, h5, h6, h7]
  simp only [Cond.before, Cond.holds, Cond.value, he]
  cases v <;> simp_all [Value.isRef]
theorem vx_isRefq {C n d : String} {A : Nat → Prop} {s : State} {args : Array Value} (h : va_Zq C n d A s s.heap) : (Cond.isRef (.static C n d)).before args s = true := by
  rcases h with h | ⟨t, h⟩
  · exact vx_isRef h rfl
  · exact vx_isRef h rfl
/-- the same frame, seen from here: as if the method were called anew in this heap -/
theorem vx_rebase {T : State} (X : Stand p l e R s m args below meth c T locs cells slots) {R' : Room} (hf : R'.frames ≤ R.frames) (hl : R'.locals ≤ R.locals) (hc : cells + R'.cells ≤ R.cells) (hs : slots + R'.slots ≤ R.slots) :
    Stand p l e R' ((T.setVm s.vm).setFrames (.invoking m args :: below)) m args below meth c T [] 0 0 := by
  have htop : (T.setVm s.vm).topJava?.isSome := X.here.top
  have hF : ((T.setVm s.vm).setFrames (.invoking m args :: below)).frames = .invoking m args :: below := State.frames_setFrames _ (State.cur_lt_of_top htop)
  obtain ⟨g₀, hg0⟩ := Option.isSome_iff_exists.mp htop
  obtain ⟨r, hr⟩ := State.topJava?_eq_some.mp hg0
  have hl9 : e.platform.stackLimits (T.setVm s.vm).me = e.platform.stackLimits s.me := X.limits
  have hb9 : (T.setVm s.vm).me.stackBytes = s.me.stackBytes := X.bytes
  refine ⟨X.admits, X.cas, X.clock, hF, ?_, X.hears, X.method, X.code, X.here, X.tail, X.warmed, ?_, ?_, ?_⟩
  · have h := X.room
    have hU : ((T.setVm s.vm).setFrames (.invoking m args :: below)).localsInUse = s.localsInUse := by
      rw [State.localsInUse_invoking hF (meth := meth) (c := c) X.method X.code, State.localsInUse_invoking X.frames X.method X.code]
    simp only [State.hasRoom, Bool.and_eq_true, decide_eq_true_eq] at h ⊢
    obtain ⟨⟨⟨⟨h1, h2, h3, h4, h5, h6⟩, h7⟩, h8⟩, h9⟩ := h
    rw [X.frames, List.length_cons] at h2 h3
    have q1 := X.heapSize
    have q2 := X.used
    simp only [hF, hU, List.length_cons, State.stackLimits_setFrames, State.stackBytes_setFrames, hl9, hb9]
    refine ⟨⟨⟨⟨by omega, by omega, by omega, by omega, by omega, h6⟩, ?_⟩, ?_⟩, X.book⟩
    · show T.heap.size + R'.cells ≤ e.platform.maxCells
      omega
    · show T.slotsUsed + R'.slots ≤ e.platform.maxSlots
      omega
  · rw [State.stackLimits_setFrames]; rfl
  · rw [State.stackBytes_setFrames]; rfl
  · refine ⟨?_, Nat.le_refl _, Nat.le_refl _, ?_, ?_, fun a c9 h9 => ⟨c9, h9, rfl, rfl, fun _ _ => rfl⟩⟩
    · obtain ⟨t, ht, -⟩ := State.frames_cons hr
      show T.setVm s.vm = { ((T.setVm s.vm).setFrames (.invoking m args :: below)).setFrames (T.setVm s.vm).frames with heap := T.heap, slotsUsed := T.slotsUsed }
      rw [State.setFrames_setFrames, State.setFrames_self ht]
      rfl
    · show T.slotsUsed = T.slotsUsed + ((T.heap.toList.drop T.heap.size).map (·.slots.size)).sum
      rw [List.drop_eq_nil_of_le (Nat.le_of_eq Array.length_toList)]
      rfl
    · show ((T.heap.toList.drop T.heap.size).map (·.slots.size)).sum ≤ 0
      rw [List.drop_eq_nil_of_le (Nat.le_of_eq Array.length_toList)]
      exact Nat.le_refl _
/-- 'throw new E()': new; dup; invokespecial; athrow -/
theorem vx_throw0 {cc : ByteArray} {pc : Nat} (hexec : p.tables.exec = Jvm.exec) (hb : c.code = cc) (hl : l.stackTraces = false) {own cls : String} {names : List String} {ik ic mc ms : Nat} {A : Nat → Prop}
    (hown : s.vm.findClass own = some m.cls) (hcls : Bundle.fit cls = true) (hnames : ∀ n ∈ names, Bundle.fit n = true)
    (hk : (Cond.classLink own ik cls).before args s = true) (hini : (Cond.initialized cls).before args s = true) (hat : ∀ w ∈ vx_at0 own ic cls names, w.before args s = true)
    (hgood : ∀ w ∈ Cond.classLink own ik cls :: Cond.initialized cls :: vx_at0 own ic cls names, vx_ot w = true)
    (hU : vx_Zq Bundle.tN "UNASSIGNED_STACK" Bundle.steD A s s.heap) (hN : vx_Zq Bundle.tN "SUPPRESSED_SENTINEL" Bundle.listD A s s.heap) (hS : va_S A s.heap H locs) (hsize : ls.size = c.maxLocals)
    (d0 : decode cc pc = .ok (.new ik, 3)) (d3 : decode cc (pc + 3) = .ok (.dup, 1)) (d4 : decode cc (pc + 4) = .ok (.invokespecial ic, 3)) (d7 : decode cc (pc + 7) = .ok (.athrow, 1))
    (hout : ∀ x ∈ c.exceptionTable.toList, covers x (pc + 7) = false)
    (hRframes : names.length + 3 < R.frames) (hRlocals : (rest.map fun v => v.category).sum + (13 * (names.length + 1) + 42) ≤ R.locals) (hRcells : cells + 1 ≤ R.cells) (hRslots : slots + 6 ≤ R.slots) (hlocks : meth.locks = false)
    (hx : ∀ t : State, s.vm.Alike t.vm → H.size ≤ t.heap.size → (∀ q : Nat, q < H.size → t.heap[q]? = H[q]?) → XC cls s t)
    (hf : ∀ z ∈ locs, free z.base) (hc : cells + 1 ≤ mc) (hs : slots + 6 ≤ ms) :
    W p l e R s m args below meth c H locs cells slots (vx_MQ below Qc XC args s mc ms free) (F0 m pc ls rest) := by
  intro T hT X
  have htr : e.platform.stackTraces = false := (show e.platform.stackTraces = l.stackTraces by rw [X.admits.platform]).trans hl
  have Y := vx_rebase X (R' := { frames := R.frames, locals := R.locals, cells := 1, slots := 6 }) (Nat.le_refl _) (Nat.le_refl _) hRcells hRslots
  obtain ⟨s', hA⟩ : ∃ z, z = (T.setVm s.vm).setFrames (.invoking m args :: below) := ⟨_, rfl⟩
  rw [← hA] at Y
  have hvm : s'.vm = s.vm := by rw [hA]; rfl
  have hhp : s'.heap = H := by rw [hA]; exact hT
  have hW0 : s.WarmedH s'.vm := by rw [hvm]; exact State.WarmedH.refl s
  have hat' : ∀ w ∈ vx_at0 own ic cls names, w.before args s' = true := fun w hw => vx_ot_at hW0 hvm.symm (hgood w (List.mem_cons_of_mem _ (List.mem_cons_of_mem _ hw))) (hat w hw)
  have hk' : (Cond.classLink own ik cls).before args s' = true := vx_ot_at hW0 hvm.symm (hgood _ List.mem_cons_self) hk
  have hini' : (Cond.initialized cls).before args s' = true := vx_ot_at hW0 hvm.symm (hgood _ (List.mem_cons_of_mem _ List.mem_cons_self)) hini
  have hU' : vx_Zq Bundle.tN "UNASSIGNED_STACK" Bundle.steD A s' s'.heap := by rw [hhp]; exact vx_Zq.moved hW0.alike (hU.kept hS.2.1)
  have hN' : vx_Zq Bundle.tN "SUPPRESSED_SENTINEL" Bundle.listD A s' s'.heap := by rw [hhp]; exact vx_Zq.moved hW0.alike (hN.kept hS.2.1)
  have h : ∀ w ∈ Bundle.ownAtoms0 own ic cls names, w.before args s' = true := vx_own hat' (vx_isRefq hU'.1) (vx_isRefq hN'.1) hU'.2.word hN'.2.word
  have hown' : s'.vm.findClass own = some m.cls := by rw [hvm]; exact hown
  have hins : (Cond.instantiable cls 6).before args s' = true := h _ (by simp [Bundle.ownAtoms0])
  obtain ⟨vm₁, cX, kX, hfX, hkX, -, -, X₁, st1⟩ := Y.newCold hexec (own := own) (C := cls) (index := ik) (n := 6) hown' hk' hins hini'
    (g := F0 m pc ls rest) rfl (by rw [hb]; exact d0) (Nat.le_refl _) (Nat.le_refl _)
  generalize hT1 : (T.setVm vm₁).pushCell { cls := cX, slots := kX.instanceTypes.map defaultValue, vm := .none } = T1 at X₁ st1
  have hcat : (Value.ref T.heap.size).category = 1 := rfl
  have hcellA : T1.heap[T.heap.size]? = some (freshCell cX kX) := by rw [← hT1]; exact State.heap_pushCell_size _ _
  have d3' : decode c.code (pc + 3) = .ok (.dup, 1) := by rw [hb]; exact d3
  obtain ⟨U, hsteps, hrun, hend, hW, hsame, ce, hce, hO⟩ := X₁.ctorThrow0 hexec htr (own := own) (cls := cls) (names := names) (ic := ic) hown' hcls hnames h (fun x hx => nomatch hx) hfX hkX hcellA (by rw [hhp, hT]; exact Nat.le_refl _)
    (g := { method := m, pc := pc + 4, locals := ls, stack := .ref T.heap.size :: .ref T.heap.size :: rest, locked := none }) rfl hsize rfl rfl (rest := rest) rfl
    (by rw [hb]; exact d4) (by rw [hb]; exact d7) hout hRframes (by simp only [List.map_cons, List.sum_cons, hcat]; omega) hlocks
  obtain ⟨f1, f2⟩ := vx_frame hsame
  rw [hhp] at f1 f2
  have hWs : s.WarmedH U.vm := State.WarmedH.trans hW0 hW
  have hcl : s.vm.findClass cls = some ce.cls := by
    have h9 := hO.cls
    rw [hvm] at h9
    exact h9
  have hall : s.sameButNew ({ U with vm := s.vm } : State) locs mc ms := by
    subst hA
    obtain ⟨e1, e2⟩ := hsame
    rw [State.setFrames_setFrames] at e1
    have h2 : (T.setVm s.vm).sameButNew ({ U with vm := s.vm } : State) [] (0 + 1) (0 + 6) := ⟨e1, e2⟩
    have h3 := X.same.trans h2
    rw [List.append_nil] at h3
    exact h3.mono hc hs
  refine ⟨U, ?_, .threw T.heap.size, hrun, hend, Or.inr ⟨T.heap.size, rfl, cls, ce, locs, hx U hWs.alike f1 (fun q hq => f2 q hq (fun z hz => nomatch hz)), hce, hO.vm, hcl, hWs, hall, hf⟩⟩
  refine st1 _ ?_
  show Steps p.tables e below (T1.setTop { method := m, pc := pc + 3, locals := ls, stack := .ref T.heap.size :: rest, locked := none }) _
  jvm_step X₁.here [X₁.here.top, hexec, d3', Value.category]
  exact hsteps
/-- 'throw new E("text")': new; dup; ldc; invokespecial; athrow -/
theorem vx_throwS {cc : ByteArray} {pc : Nat} (hexec : p.tables.exec = Jvm.exec) (hb : c.code = cc) (hl : l.stackTraces = false) {own cls text : String} {names : List String} {ik is ic mc ms sa : Nat} {A : Nat → Prop}
    (hown : s.vm.findClass own = some m.cls) (hcls : Bundle.fit cls = true) (hnames : ∀ n ∈ names, Bundle.fit n = true)
    (hk : (Cond.classLink own ik cls).before args s = true) (hini : (Cond.initialized cls).before args s = true) (hstr : vk_R own is text sa s) (hat : ∀ w ∈ vx_atS own ic cls names, w.before args s = true)
    (hgood : ∀ w ∈ Cond.classLink own ik cls :: Cond.initialized cls :: vx_atS own ic cls names, vx_ot w = true)
    (hU : vx_Zq Bundle.tN "UNASSIGNED_STACK" Bundle.steD A s s.heap) (hN : vx_Zq Bundle.tN "SUPPRESSED_SENTINEL" Bundle.listD A s s.heap) (hS : va_S A s.heap H locs) (hsize : ls.size = c.maxLocals)
    (d0 : decode cc pc = .ok (.new ik, 3)) (d3 : decode cc (pc + 3) = .ok (.dup, 1)) (d4 : decode cc (pc + 4) = .ok (.ldc is, 2)) (d6 : decode cc (pc + 6) = .ok (.invokespecial ic, 3)) (d9 : decode cc (pc + 9) = .ok (.athrow, 1))
    (hout : ∀ x ∈ c.exceptionTable.toList, covers x (pc + 9) = false)
    (hRframes : names.length + 3 < R.frames) (hRlocals : (rest.map fun v => v.category).sum + (13 * (names.length + 1) + 43) ≤ R.locals) (hRcells : cells + 1 ≤ R.cells) (hRslots : slots + 6 ≤ R.slots) (hlocks : meth.locks = false)
    (hx : ∀ t : State, s.vm.Alike t.vm → H.size ≤ t.heap.size → (∀ q : Nat, q < H.size → t.heap[q]? = H[q]?) → XC cls s t)
    (hf : ∀ z ∈ locs, free z.base) (hc : cells + 1 ≤ mc) (hs : slots + 6 ≤ ms) :
    W p l e R s m args below meth c H locs cells slots (vx_MQ below Qc XC args s mc ms free) (F0 m pc ls rest) := by
  intro T hT X
  have htr : e.platform.stackTraces = false := (show e.platform.stackTraces = l.stackTraces by rw [X.admits.platform]).trans hl
  have Y := vx_rebase X (R' := { frames := R.frames, locals := R.locals, cells := 1, slots := 6 }) (Nat.le_refl _) (Nat.le_refl _) hRcells hRslots
  obtain ⟨s', hA⟩ : ∃ z, z = (T.setVm s.vm).setFrames (.invoking m args :: below) := ⟨_, rfl⟩
  rw [← hA] at Y
  have hvm : s'.vm = s.vm := by rw [hA]; rfl
  have hhp : s'.heap = H := by rw [hA]; exact hT
  have hW0 : s.WarmedH s'.vm := by rw [hvm]; exact State.WarmedH.refl s
  have hat' : ∀ w ∈ vx_atS own ic cls names, w.before args s' = true := fun w hw => vx_ot_at hW0 hvm.symm (hgood w (List.mem_cons_of_mem _ (List.mem_cons_of_mem _ hw))) (hat w hw)
  have hk' : (Cond.classLink own ik cls).before args s' = true := vx_ot_at hW0 hvm.symm (hgood _ List.mem_cons_self) hk
  have hini' : (Cond.initialized cls).before args s' = true := vx_ot_at hW0 hvm.symm (hgood _ (List.mem_cons_of_mem _ List.mem_cons_self)) hini
  have hU' : vx_Zq Bundle.tN "UNASSIGNED_STACK" Bundle.steD A s' s'.heap := by rw [hhp]; exact vx_Zq.moved hW0.alike (hU.kept hS.2.1)
  have hN' : vx_Zq Bundle.tN "SUPPRESSED_SENTINEL" Bundle.listD A s' s'.heap := by rw [hhp]; exact vx_Zq.moved hW0.alike (hN.kept hS.2.1)
  have h : ∀ w ∈ Bundle.ownAtoms own ic cls names, w.before args s' = true := vx_own hat' (vx_isRefq hU'.1) (vx_isRefq hN'.1) hU'.2.word hN'.2.word
  have hown' : s'.vm.findClass own = some m.cls := by rw [hvm]; exact hown
  have hins : (Cond.instantiable cls 6).before args s' = true := h _ (by simp [Bundle.ownAtoms])
  obtain ⟨vm₁, cX, kX, hfX, hkX, -, -, X₁, st1⟩ := Y.newCold hexec (own := own) (C := cls) (index := ik) (n := 6) hown' hk' hins hini'
    (g := F0 m pc ls rest) rfl (by rw [hb]; exact d0) (Nat.le_refl _) (Nat.le_refl _)
  generalize hT1 : (T.setVm vm₁).pushCell { cls := cX, slots := kX.instanceTypes.map defaultValue, vm := .none } = T1 at X₁ st1
  have hcat : (Value.ref T.heap.size).category = 1 := rfl
  have hcellA : T1.heap[T.heap.size]? = some (freshCell cX kX) := by rw [← hT1]; exact State.heap_pushCell_size _ _
  have d3' : decode c.code (pc + 3) = .ok (.dup, 1) := by rw [hb]; exact d3
  have d4' : decode c.code (pc + 4) = .ok (.ldc is, 2) := by rw [hb]; exact d4
  have hstr' : vk_R own is text sa s' := vk_R.warm hW0 hstr
  obtain ⟨U, hsteps, hrun, hend, hW, hsame, ce, hce, hO⟩ := X₁.ctorThrowS hexec htr (own := own) (cls := cls) (names := names) (ic := ic) hown' hcls hnames h (fun x hx => nomatch hx) hfX hkX hcellA (by rw [hhp, hT]; exact Nat.le_refl _) (msg := .ref sa) rfl
    (g := { method := m, pc := pc + 6, locals := ls, stack := .ref sa :: .ref T.heap.size :: .ref T.heap.size :: rest, locked := none }) rfl hsize rfl rfl (rest := rest) rfl
    (by rw [hb]; exact d6) (by rw [hb]; exact d9) hout hRframes (by simp only [List.map_cons, List.sum_cons, hcat]; omega) hlocks
  obtain ⟨f1, f2⟩ := vx_frame hsame
  rw [hhp] at f1 f2
  have hWs : s.WarmedH U.vm := State.WarmedH.trans hW0 hW
  have hcl : s.vm.findClass cls = some ce.cls := by
    have h9 := hO.cls
    rw [hvm] at h9
    exact h9
  have hall : s.sameButNew ({ U with vm := s.vm } : State) locs mc ms := by
    subst hA
    obtain ⟨e1, e2⟩ := hsame
    rw [State.setFrames_setFrames] at e1
    have h2 : (T.setVm s.vm).sameButNew ({ U with vm := s.vm } : State) [] (0 + 1) (0 + 6) := ⟨e1, e2⟩
    have h3 := X.same.trans h2
    rw [List.append_nil] at h3
    exact h3.mono hc hs
  refine ⟨U, ?_, .threw T.heap.size, hrun, hend, Or.inr ⟨T.heap.size, rfl, cls, ce, locs, hx U hWs.alike f1 (fun q hq => f2 q hq (fun z hz => nomatch hz)), hce, hO.vm, hcl, hWs, hall, hf⟩⟩
  refine st1 _ ?_
  show Steps p.tables e below (T1.setTop { method := m, pc := pc + 3, locals := ls, stack := .ref T.heap.size :: rest, locked := none }) _
  jvm_step X₁.here [X₁.here.top, hexec, d3', Value.category]
  exact X₁.ldcString hexec (own := own) (text := text) (index := is) (a := sa) hown' hstr'.1 hstr'.2
    (g := { method := m, pc := pc + 4, locals := ls, stack := .ref T.heap.size :: .ref T.heap.size :: rest, locked := none }) rfl d4' _ hsteps
/-- 'throw new E("text")', the text by a wide index -/
theorem vx_throwSW {cc : ByteArray} {pc : Nat} (hexec : p.tables.exec = Jvm.exec) (hb : c.code = cc) (hl : l.stackTraces = false) {own cls text : String} {names : List String} {ik is ic mc ms sa : Nat} {A : Nat → Prop}
    (hown : s.vm.findClass own = some m.cls) (hcls : Bundle.fit cls = true) (hnames : ∀ n ∈ names, Bundle.fit n = true)
    (hk : (Cond.classLink own ik cls).before args s = true) (hini : (Cond.initialized cls).before args s = true) (hstr : vk_R own is text sa s) (hat : ∀ w ∈ vx_atS own ic cls names, w.before args s = true)
    (hgood : ∀ w ∈ Cond.classLink own ik cls :: Cond.initialized cls :: vx_atS own ic cls names, vx_ot w = true)
    (hU : vx_Zq Bundle.tN "UNASSIGNED_STACK" Bundle.steD A s s.heap) (hN : vx_Zq Bundle.tN "SUPPRESSED_SENTINEL" Bundle.listD A s s.heap) (hS : va_S A s.heap H locs) (hsize : ls.size = c.maxLocals)
    (d0 : decode cc pc = .ok (.new ik, 3)) (d3 : decode cc (pc + 3) = .ok (.dup, 1)) (d4 : decode cc (pc + 4) = .ok (.ldc_w is, 3)) (d7 : decode cc (pc + 7) = .ok (.invokespecial ic, 3)) (d10 : decode cc (pc + 10) = .ok (.athrow, 1))
    (hout : ∀ x ∈ c.exceptionTable.toList, covers x (pc + 10) = false)
    (hRframes : names.length + 3 < R.frames) (hRlocals : (rest.map fun v => v.category).sum + (13 * (names.length + 1) + 43) ≤ R.locals) (hRcells : cells + 1 ≤ R.cells) (hRslots : slots + 6 ≤ R.slots) (hlocks : meth.locks = false)
    (hx : ∀ t : State, s.vm.Alike t.vm → H.size ≤ t.heap.size → (∀ q : Nat, q < H.size → t.heap[q]? = H[q]?) → XC cls s t)
    (hf : ∀ z ∈ locs, free z.base) (hc : cells + 1 ≤ mc) (hs : slots + 6 ≤ ms) :
    W p l e R s m args below meth c H locs cells slots (vx_MQ below Qc XC args s mc ms free) (F0 m pc ls rest) := by
  intro T hT X
  have htr : e.platform.stackTraces = false := (show e.platform.stackTraces = l.stackTraces by rw [X.admits.platform]).trans hl
  have Y := vx_rebase X (R' := { frames := R.frames, locals := R.locals, cells := 1, slots := 6 }) (Nat.le_refl _) (Nat.le_refl _) hRcells hRslots
  obtain ⟨s', hA⟩ : ∃ z, z = (T.setVm s.vm).setFrames (.invoking m args :: below) := ⟨_, rfl⟩
  rw [← hA] at Y
  have hvm : s'.vm = s.vm := by rw [hA]; rfl
  have hhp : s'.heap = H := by rw [hA]; exact hT
  have hW0 : s.WarmedH s'.vm := by rw [hvm]; exact State.WarmedH.refl s
  have hat' : ∀ w ∈ vx_atS own ic cls names, w.before args s' = true := fun w hw => vx_ot_at hW0 hvm.symm (hgood w (List.mem_cons_of_mem _ (List.mem_cons_of_mem _ hw))) (hat w hw)
  have hk' : (Cond.classLink own ik cls).before args s' = true := vx_ot_at hW0 hvm.symm (hgood _ List.mem_cons_self) hk
  have hini' : (Cond.initialized cls).before args s' = true := vx_ot_at hW0 hvm.symm (hgood _ (List.mem_cons_of_mem _ List.mem_cons_self)) hini
  have hU' : vx_Zq Bundle.tN "UNASSIGNED_STACK" Bundle.steD A s' s'.heap := by rw [hhp]; exact vx_Zq.moved hW0.alike (hU.kept hS.2.1)
  have hN' : vx_Zq Bundle.tN "SUPPRESSED_SENTINEL" Bundle.listD A s' s'.heap := by rw [hhp]; exact vx_Zq.moved hW0.alike (hN.kept hS.2.1)
  have h : ∀ w ∈ Bundle.ownAtoms own ic cls names, w.before args s' = true := vx_own hat' (vx_isRefq hU'.1) (vx_isRefq hN'.1) hU'.2.word hN'.2.word
  have hown' : s'.vm.findClass own = some m.cls := by rw [hvm]; exact hown
  have hins : (Cond.instantiable cls 6).before args s' = true := h _ (by simp [Bundle.ownAtoms])
  obtain ⟨vm₁, cX, kX, hfX, hkX, -, -, X₁, st1⟩ := Y.newCold hexec (own := own) (C := cls) (index := ik) (n := 6) hown' hk' hins hini'
    (g := F0 m pc ls rest) rfl (by rw [hb]; exact d0) (Nat.le_refl _) (Nat.le_refl _)
  generalize hT1 : (T.setVm vm₁).pushCell { cls := cX, slots := kX.instanceTypes.map defaultValue, vm := .none } = T1 at X₁ st1
  have hcat : (Value.ref T.heap.size).category = 1 := rfl
  have hcellA : T1.heap[T.heap.size]? = some (freshCell cX kX) := by rw [← hT1]; exact State.heap_pushCell_size _ _
  have d3' : decode c.code (pc + 3) = .ok (.dup, 1) := by rw [hb]; exact d3
  have d4' : decode c.code (pc + 4) = .ok (.ldc_w is, 3) := by rw [hb]; exact d4
  have hstr' : vk_R own is text sa s' := vk_R.warm hW0 hstr
  obtain ⟨U, hsteps, hrun, hend, hW, hsame, ce, hce, hO⟩ := X₁.ctorThrowS hexec htr (own := own) (cls := cls) (names := names) (ic := ic) hown' hcls hnames h (fun x hx => nomatch hx) hfX hkX hcellA (by rw [hhp, hT]; exact Nat.le_refl _) (msg := .ref sa) rfl
    (g := { method := m, pc := pc + 7, locals := ls, stack := .ref sa :: .ref T.heap.size :: .ref T.heap.size :: rest, locked := none }) rfl hsize rfl rfl (rest := rest) rfl
    (by rw [hb]; exact d7) (by rw [hb]; exact d10) hout hRframes (by simp only [List.map_cons, List.sum_cons, hcat]; omega) hlocks
  obtain ⟨f1, f2⟩ := vx_frame hsame
  rw [hhp] at f1 f2
  have hWs : s.WarmedH U.vm := State.WarmedH.trans hW0 hW
  have hcl : s.vm.findClass cls = some ce.cls := by
    have h9 := hO.cls
    rw [hvm] at h9
    exact h9
  have hall : s.sameButNew ({ U with vm := s.vm } : State) locs mc ms := by
    subst hA
    obtain ⟨e1, e2⟩ := hsame
    rw [State.setFrames_setFrames] at e1
    have h2 : (T.setVm s.vm).sameButNew ({ U with vm := s.vm } : State) [] (0 + 1) (0 + 6) := ⟨e1, e2⟩
    have h3 := X.same.trans h2
    rw [List.append_nil] at h3
    exact h3.mono hc hs
  refine ⟨U, ?_, .threw T.heap.size, hrun, hend, Or.inr ⟨T.heap.size, rfl, cls, ce, locs, hx U hWs.alike f1 (fun q hq => f2 q hq (fun z hz => nomatch hz)), hce, hO.vm, hcl, hWs, hall, hf⟩⟩
  refine st1 _ ?_
  show Steps p.tables e below (T1.setTop { method := m, pc := pc + 3, locals := ls, stack := .ref T.heap.size :: rest, locked := none }) _
  jvm_step X₁.here [X₁.here.top, hexec, d3', Value.category]
  exact X₁.ldcStringW hexec (own := own) (text := text) (index := is) (a := sa) hown' hstr'.1 hstr'.2
    (g := { method := m, pc := pc + 4, locals := ls, stack := .ref T.heap.size :: .ref T.heap.size :: rest, locked := none }) rfl d4' _ hsteps
end Ends
section Bodies
variable {l : Launch}
theorem vx_ofW {y : MethodName} {ws ws' : List Cond} {rm : Room} {Pc : Array Value → State → Prop} {Qc : Array Value → State → Outcome → State → Prop} {XC : String → State → State → Prop} {mc ms : Nat} {free : Addr → Prop} {cc : ByteArray} {maxL : Nat} {ret : Option FieldType}
    (hy : plainName y.cls = true) (hw : ws = Cond.code y cc maxL ret :: ws')
    (body : ∀ p e s m args below meth c s₁, BodyLoose p l y (headSpec ws rm) cc maxL ret e s m args below meth c s₁ → c.maxLocals = maxL → (∀ x ∈ c.exceptionTable.toList, False) → Pc args s →
      W p l e (headSpec ws rm).room s m args below meth c s.heap [] 0 0 (vx_MQ below Qc XC args s mc ms free) (entryFrame m args maxL)) : vx_Met l y ws rm Pc Qc XC mc ms free := by
  refine MetFree.of_bodyS (code := cc) (maxLocals := maxL) (ret := ret) hy ?_ ?_
  · intro args s m h hn
    obtain ⟨meth, c, h1, h2, h3, h4, h5, h6, -, -⟩ := Cond.code_spec hn (atoms_spec (ws := ws) h _ (by rw [hw]; exact List.mem_cons_self))
    exact ⟨meth, c, h1, h2, h3, h4, h5, h6⟩
  · intro p e s m args below meth c s₁ B hml hP _
    have hh0 : s₁.heap = s.heap := by rw [B.state]; rfl
    have ht : ∀ x ∈ c.exceptionTable.toList, False := by
      obtain ⟨meth9, c9, h1, h2, -, -, -, -, h7, -⟩ := Cond.code_spec B.named (atoms_spec (ws := ws) B.pre _ (by rw [hw]; exact List.mem_cons_self))
      cases Option.some.inj (h1.symm.trans B.method)
      cases Option.some.inj (h2.symm.trans (Stand.of_body B).code)
      intro x hx
      rw [Array.isEmpty_iff.mp h7] at hx
      cases hx
    obtain ⟨t, a1, o, b1, b2, b3⟩ := body p e s m args below meth c s₁ B hml ht hP s₁ hh0 (Stand.of_body B)
    exact ⟨t, o, a1, b1, b2, b3⟩
/-- the table of a body with handlers -/
theorem vx_table {p : Program} {x y : MethodName} {S : Spec} {cc bytes : ByteArray} {maxL maxL' : Nat} {ret ret' : Option FieldType} {e : Env} {s s₁ : State} {m : MethodId} {args : Array Value} {below : List Frame} {meth : Method} {c : Code} {hh : List (Nat × Nat × Nat × Nat)}
    (B : BodyLoose p l y S cc maxL ret e s m args below meth c s₁) (h : (Cond.codeWith y bytes maxL' ret' hh).before args s = true) : c.exceptionTable.toList = tableOf hh := by
  obtain ⟨m9, meth9, c9, hn9, h1, h2, -, -, h6, -⟩ := Cond.codeWith_spec h
  cases Option.some.inj (hn9.symm.trans B.named)
  cases Option.some.inj (h1.symm.trans B.method)
  cases Option.some.inj (h2.symm.trans (Stand.of_body B).code)
  rw [← h6, table_eq]
end Bodies
end VXA
/-! ===== END ===== -/
/-! ===== BEGIN a static call of a method with an exception table ===== -/
section VXS
variable {p : Program} {l : Launch} {e : Env} {R : Room} {s : State} {m : MethodId} {args : Array Value} {below : List Frame} {meth : Method} {c : Code} {T : State} {H : Heap} {locs : List Loc} {cells slots : Nat}
abbrev vx_CSW (R : Room) (s : State) (args : Array Value) (own : String) (index : Nat) (y : MethodName) (bytes : ByteArray) (maxL : Nat) (ret : Option FieldType) (hh : List (Nat × Nat × Nat × Nat)) (ws : List Cond) (rm : Room) (mc ms n : Nat) : Prop :=
  (rm.cells = mc ∧ rm.slots = ms ∧ rm.frames + 1 ≤ R.frames ∧ 8 + (maxL + 11) + rm.locals ≤ R.locals ∧ (∀ w ∈ ws, ∀ (a' : Array Value) (U : State), s.WarmedH U.vm → w.before a' U = true) ∧ Cond.codeWith y bytes maxL ret hh ∈ ws) ∧
  (Cond.codeWith y bytes maxL ret hh).before args s = true ∧ (Cond.initialized y.cls).before args s = true ∧ (y.cls ≠ "java/lang/invoke/MethodHandle" ∧ y.cls ≠ "java/lang/invoke/VarHandle") ∧
  (∀ sig, parseMethodDescriptor y.desc = some sig → n = sig.parameters.length) ∧ (Cond.methodLink own index y).before args s = true ∧ (Cond.static y).before args s = true
theorem vx_cwSW {own : String} {index maxL mc ms : Nat} {y : MethodName} {bytes : ByteArray} {ret : Option FieldType} {hh : List (Nat × Nat × Nat × Nat)} {Ts ws ws' : List Cond} {rm : Room} (n : Nat) (ht : ∀ w ∈ Ts, w.before args s = true) (hT : GoodIn Ts (va_wsS own index y ws)) (hw : ws = Cond.codeWith y bytes maxL ret hh :: ws') (hrc : rm.cells = mc) (hrs : rm.slots = ms)
    (hd : y.cls ≠ "java/lang/invoke/MethodHandle" ∧ y.cls ≠ "java/lang/invoke/VarHandle" ∧ (parseMethodDescriptor y.desc).map (fun d => d.parameters.length) = some n) (hR : rm.frames + 1 ≤ R.frames ∧ 8 + (maxL + 11) + rm.locals ≤ R.locals) :
    vx_CSW R s args own index y bytes maxL ret hh ws rm mc ms n := by
  have ok : ∀ w ∈ va_wsS own index y ws, w.before args s = true := fun w h => ht w (hT w h).1
  have hG : GoodIn Ts ws := fun w h => hT w (by unfold va_wsS; exact List.mem_append_right _ h)
  have hc : Cond.codeWith y bytes maxL ret hh ∈ ws := by rw [hw]; exact List.mem_cons_self
  refine ⟨⟨hrc, hrs, hR.1, hR.2, pay_in ht hG, hc⟩, ht _ (hG _ hc).1, ok _ (by simp [va_wsS]), ⟨hd.1, hd.2.1⟩, fun sig h => ?_, ok _ (by simp [va_wsS]), ok _ (by simp [va_wsS])⟩
  have h2 := hd.2.2
  rw [h] at h2
  exact (Option.some.inj h2).symm
theorem vx_callSW (X : Stand p l e R s m args below meth c T locs cells slots) (hexec : p.tables.exec = Jvm.exec) {own : String} {index : Nat} {y : MethodName} {bytes : ByteArray} {maxL : Nat} {ret : Option FieldType} {hh : List (Nat × Nat × Nat × Nat)}
    (hown : s.vm.findClass own = some m.cls) (hlink : (Cond.methodLink own index y).before args s = true) (hstat : (Cond.static y).before args s = true) (hinit : (Cond.initialized y.cls).before args s = true)
    (hcode : (Cond.codeWith y bytes maxL ret hh).before args s = true) (hy : y.cls ≠ "java/lang/invoke/MethodHandle" ∧ y.cls ≠ "java/lang/invoke/VarHandle")
    {W9 : Nat} {Pre : Pt → Array Value → Prop} {Post : Pt → Array Value → Option Value → Pt → Prop} (hK : Back l R p e below s args y 3 W9 Pre Post)
    {g : JFrame} (hg : g.method = m) (hsize : g.locals.size = c.maxLocals) {argsL rest : List Value} (hlen : ∀ sig, parseMethodDescriptor y.desc = some sig → argsL.length = sig.parameters.length)
    (hstack : g.stack = argsL.reverse ++ rest) (hW : 2 * g.monitorRoom + (rest.map fun v => v.category).sum ≤ W9) (hdg : decode c.code g.pc = .ok (.invokestatic index, 3))
    (hpre : ∀ vm₁, s.WarmedH vm₁ → Pre ⟨T.setVm vm₁, locs, cells, slots⟩ argsL.toArray) :
    ∃ (v : Option Value) (vm₁ : Vm) (B : Pt), s.WarmedH vm₁ ∧ Stand p l e R s m args below meth c B.U B.locs B.cells B.slots ∧ Post ⟨T.setVm vm₁, locs, cells, slots⟩ argsL.toArray v B ∧
      ∀ target, Steps p.tables e below (B.U.setTop { g with pc := g.pc + 3, stack := v.toList ++ rest }) target → Steps p.tables e below (T.setTop g) target := by
  obtain ⟨mk, methM, cM, hnamed, hmethM, -, -, -, -, -, -, hsigM⟩ := Cond.codeWith_spec hcode
  have hstatic : methM.isStatic = true := Cond.static_spec hnamed hmethM hstat
  obtain ⟨kP, hkP, -⟩ := className_of_methodNamed hnamed
  have hinitP : kP.init = .initialized := Cond.initialized_spec (findClass_of_methodNamed hnamed) hkP hinit
  obtain ⟨vm₁, X₁, hstep₁⟩ := X.invokestatic hexec hown hlink hnamed hmethM hstatic hkP hinitP hy (g := g) hg (argsL := argsL) (rest := rest) (hlen _ hsigM) hstack hdg
  obtain ⟨v, B, X', hpost, hsteps⟩ := hK m meth c ⟨T.setVm vm₁, locs, cells, slots⟩ { g with stack := rest } (.invokestatic index) mk argsL.toArray X₁ hg hsize hdg hW (X₁.named hnamed) (hpre vm₁ X₁.warmed)
  exact ⟨v, vm₁, B, X₁.warmed, X', hpost, fun target h => hstep₁ _ fun acts => by rw [doInvoke_state]; exact hsteps.trans h⟩
theorem vx_runSW {y : MethodName} {bytes cc : ByteArray} {maxL nL mc ms n index : Nat} {ret : Option FieldType} {hh : List (Nat × Nat × Nat × Nat)} {ws : List Cond} {rm : Room} {Pc : Array Value → State → Prop} {Qc : Array Value → State → Outcome → State → Prop} {free : Addr → Prop} {Ts : List Cond} {own : String} {As rest : List Value} {g : JFrame}
    (S : CallFix p m c cc nL s args Ts own) (hM : Met l y ws rm Pc Qc mc ms free) (cw : vx_CSW R s args own index y bytes maxL ret hh ws rm mc ms n) (hp : PreS s H Pc As)
    (hg : g.method = m) (hn : As.length = n) (hsize : g.locals.size = nL) (hstack : g.stack = As.reverse ++ rest) (hW : 2 * g.monitorRoom + (rest.map fun v => v.category).sum ≤ 8) (hdg : decode cc g.pc = .ok (.invokestatic index, 3)) (hf : cells + mc ≤ R.cells ∧ slots + ms ≤ R.slots) :
    va_Run p l e R s m args below meth c H locs cells slots mc ms g rest (Qc As.toArray) (free) := by
  obtain ⟨⟨hrc, hrs, hfr, hlo, hws, hcw⟩, hcode, hini, hy, hlen, hl, hstt⟩ := cw
  have hK : Back l R p e below s args y 3 8 (PreOf R mc ms Pc) (PostOf Qc mc ms free) := va_backW (hh := hh) (bytes := bytes) (maxL := maxL) (ret := ret) hM hp.1 hrc hrs hfr hlo hws hcw (fun a' U hW => word_at hW (Or.inl (by first | rfl | simp [Cond.onTables, Cond.keeps, Cond.steady])) hini)
  obtain ⟨hx, hb, hml, ho, -⟩ := S
  intro T hT X
  obtain ⟨v, vm₁, ⟨U', l2, c2, s2⟩, hW₁, X', ⟨g', mk, t, L, e1, e2, hq, h1, hL, h2, h3⟩, st⟩ := vx_callSW X hx (hh := hh) (bytes := bytes) (maxL := maxL) (ret := ret) ho hl hstt hini hcode hy hK hg (hsize.trans hml.symm) (argsL := As) (rest := rest) (fun sig h => hn.trans (hlen sig h)) hstack hW (by rw [hb]; exact hdg)
    (fun vm₁ hW₁ => ⟨hf.1, hf.2, hp.2 (T.setVm vm₁) hT hW₁⟩)
  dsimp only [Pt.U, Pt.locs, Pt.cells, Pt.slots] at X' e1 e2 h1 h2 h3 st
  subst h1; subst h2; subst h3
  exact ⟨v, (T.setVm vm₁).calling g' mk As.toArray, t, U', L, hT, X', hL, e1, e2, hq, st⟩
/-- not caught here, past rows that name other classes: it goes on to the caller -/
theorem vx_outP {p : Program} {l : Launch} {e : Env} {R : Room} {s : State} {m : MethodId} {args : Array Value} {below : List Frame} {meth : Method} {c : Code} {H : Heap} {locs : List Loc} {cells slots : Nat} {free : Addr → Prop} {ls : Array Slot} {rest : List Value} {Qc : Array Value → State → Outcome → State → Prop} {XC : String → State → State → Prop}
    {pc : Nat} {own E : String} {ce : Cell} {q : Addr} {mc ms : Nat} (hown : s.vm.findClass own = some m.cls) (hlocks : meth.locks = false)
    (hpass : ∀ z ∈ c.exceptionTable.toList, covers z pc = false ∨ (z.catchType ≠ 0 ∧ ∃ nm : String, (Cond.classLink own z.catchType nm).before args s = true ∧ va_Nc E nm s)) (hcell : H[q]? = some ce) (hv : ce.vm = .none) (hcl : s.vm.findClass E = some ce.cls)
    (hx : ∀ t : State, t.heap = H → s.vm.Alike t.vm → XC E s t) (hf : ∀ z ∈ locs, free z.base) (hc : cells ≤ mc) (hs : slots ≤ ms) :
    vx_W p l e R s m args below meth c H locs cells slots (vx_MQ below Qc XC args s mc ms free) (F0 m pc ls rest) q := by
  intro T hT X
  have hpl : e.platform.magicAccessors = ({} : Platform).magicAccessors := by rw [X.admits.platform]
  obtain ⟨vm', hW', X', st⟩ := X.outThrough hlocks q (g := F0 m pc ls rest) rfl rfl rfl (cell := ce) (by rw [hT]; exact hcell) (by rw [hv]; rfl)
    (by obtain ⟨k9, h9, -⟩ := Vm.findClass_spec hcl; exact ⟨k9, h9⟩) (fun z hz => by
      rcases hpass z hz with h | ⟨hz0, nm, hl1, hn1⟩
      · exact Or.inl h
      · obtain ⟨c6, hc6, hcl6⟩ := Cond.classLink_spec hown hl1 e.platform hpl
        obtain ⟨a8, b8, h1, h2, h3⟩ := hn1
        cases Option.some.inj (h1.symm.trans hcl)
        cases Option.some.inj (h2.symm.trans hc6)
        exact Or.inr ⟨hz0, _, hcl6, h3⟩)
  obtain ⟨g₀, hfr⟩ := X'.frames_eq
  have hcell9 : ((T.setVm vm').setFrames (.throwing q :: below)).heap[q]? = some ce := by
    show T.heap[q]? = some ce
    rw [hT]; exact hcell
  have hend : Ended ((T.setVm vm').setFrames (.throwing q :: below)) below (.threw q) := State.frames_setFrames _ (State.cur_lt_of_frames hfr)
  refine ⟨(T.setVm vm').setFrames (.throwing q :: below), ?_, .threw q, X'.here.running, hend, Or.inr ⟨q, rfl, E, ce, locs, hx _ hT (X'.ends _).1.alike, hcell9, hv, hcl, (X'.ends _).1, (X'.ends _).2.mono hc hs, hf⟩⟩
  rw [X.pushThrowing_eq]
  exact st
/-- a thing of a world lies in the heap -/
theorem vx_lt {D : va_G} {cl : List vw_C} {ws : va_W} {H1 : Heap} (h : va_P D cl ws H1) {k : Nat} {q : Nat × va_E} (hk : ws[k]? = some q) : q.1 < H1.size := (h k q hk).lt
end VXS
/-! ===== END ===== -/
/-! ===== BEGIN methods with a table of their own: called by a name, returning or throwing ===== -/
section VXH
/-! vx_backW, vx_callVX, vx_callSX, vx_callVW, vx_runVW, vx_runVX, vx_runSX, vx_ofWH follow the same proofs as their sisters above (Free/Laws.lean, Shelf42/LK1.lean); vx_outP calls Shelf42/NT130.lean (outThrough). -/
section
variable {l : Launch} {R : Room} {p : Program} {e : Env} {below : List Frame} {s : State} {sargs : Array Value} {y : MethodName} {len W9 : Nat}
theorem vx_backW {ws : List Cond} {rm : Room} {Pc : Array Value → State → Prop} {Qc : Array Value → State → Outcome → State → Prop} {XC : String → State → State → Prop} {mc ms : Nat} {free : Addr → Prop} {bytes : ByteArray} {maxL : Nat} {ret : Option FieldType} {hh : List (Nat × Nat × Nat × Nat)}
    (hM : vx_Met l y ws rm Pc Qc XC mc ms free) (hblind : FrameBlind Pc) (hrc : rm.cells = mc) (hrs : rm.slots = ms)
    (hframes : rm.frames + 1 ≤ R.frames) (hlocals : W9 + (maxL + 11) + rm.locals ≤ R.locals)
    (hws : ∀ w ∈ ws, ∀ a' U, s.WarmedH U.vm → w.before a' U = true) (hcode : Cond.codeWith y bytes maxL ret hh ∈ ws) (hinit : ∀ a' U, s.WarmedH U.vm → (Cond.initialized y.cls).before a' U = true) :
    vx_Back l R p e below s sargs y len W9 (PreOf R mc ms Pc) (PostOf Qc mc ms free) (vx_Post XC mc ms free) := by
  intro m meth c A g ig mk a X hg hsize hdg hW hn hp
  have h1 : (headSpec ws rm).pre.before a A.U = true := atoms_intro fun w hw => hws w hw _ _ X.warmed
  have h2 : (Cond.codeWith y bytes maxL ret hh).before a A.U = true := hws _ hcode _ _ X.warmed
  have h3 : (Cond.initialized y.cls).before a A.U = true := hinit _ _ X.warmed
  have h4 : A.cells + (headSpec ws rm).room.cells ≤ R.cells := by rw [show (headSpec ws rm).room.cells = mc from hrc]; exact hp.1
  have h5 : A.slots + (headSpec ws rm).room.slots ≤ R.slots := by rw [show (headSpec ws rm).room.slots = ms from hrs]; exact hp.2.1
  have hPc : Pc a (A.U.calling g mk a) := hblind _ _ _ _ hp.2.2
  obtain ⟨U, Ls, c0, s0⟩ := A
  dsimp only [Pt.U, Pt.locs, Pt.cells, Pt.slots] at h1 h2 h3 h4 h5 X hn hPc ⊢
  obtain ⟨m9, methY, cY, hn9, hmY, hcY, -, hlY, -⟩ := Cond.codeWith_spec h2
  cases Option.some.inj (hn9.symm.trans hn)
  obtain ⟨kY, hkY, -⟩ := className_of_methodNamed hn
  have hinitY : kY.init = .initialized := Cond.initialized_spec (findClass_of_methodNamed hn) hkY h3
  have h : At U g.method c below := by rw [hg]; exact X.here
  have hlocals9 : W9 + (maxL + 11) + (headSpec ws rm).room.locals ≤ R.locals := hlocals
  have happ : (headSpec ws rm).appliesLoose y e.platform (U.calling g mk a) = true :=
    Spec.appliesLoose_calling (g := g) h hdg hn hkY hinitY
      (X.room_calling (g := g) (R' := (headSpec ws rm).room) hsize hmY hcY hframes (by rw [hlY]; omega) h4 h5) h1
  obtain ⟨mid, hmid⟩ := h.above
  have hfr : (U.setTop g).frames = (.java g :: mid) ++ below := by rw [State.frames_setTop' g h.top, hmid]; rfl
  obtain ⟨o, s₂, hsteps, -, hend, hq⟩ := Steps.callFree hM p X.admits X.cas X.clock (acts := []) hfr happ hPc trivial
  have hq' : vx_Q Qc XC mc ms free a (U.calling g mk a) o s₂ := hq
  rw [State.frames_setTop' g h.top] at hend
  obtain ⟨g₀, hg0⟩ := Option.isSome_iff_exists.mp h.top
  obtain ⟨r, hr⟩ := State.topJava?_eq_some.mp hg0
  have hr' : (({ U with heap := s₂.heap, slotsUsed := s₂.slotsUsed } : State).setVm s₂.vm).frames = .java g₀ :: r := hr
  rcases hq' with ⟨hqc, L, hfe, hL⟩ | ⟨q, rfl, E, ce, L, hx, hce, hcv, hcl, hW₂, hsm, hL⟩
  · obtain ⟨⟨v, rfl⟩, hW₂, e2, q2, q3, q4, q5, q6⟩ := id hfe
    have e3 : s₂ = ({ (U.calling g mk a).setFrames s₂.frames with heap := s₂.heap, slotsUsed := s₂.slotsUsed } : State).setVm s₂.vm := by
      have : s₂ = ({ s₂ with vm := (U.calling g mk a).vm } : State).setVm s₂.vm := rfl
      rw [e2] at this
      exact this
    obtain ⟨c₂, i₂, len₂, hc₂, hd₂, hf₂⟩ := hend
    have hW' : U.WarmedH s₂.vm := hW₂
    have hcc : c₂ = c := by
      have h1 : s₂.code? g.method = U.code? g.method := by
        rw [State.code?_eq, State.code?_eq, hW'.alike.method?]
      exact Option.some.inj (hc₂.symm.trans (h1.trans h.code))
    subst hcc
    have hlen : len₂ = len := by rw [hdg] at hd₂; cases hd₂; rfl
    subst hlen
    have hs₂ : s₂ = (({ U with heap := s₂.heap, slotsUsed := s₂.slotsUsed } : State).setVm s₂.vm).setTop { g with pc := g.pc + len₂, stack := v.toList ++ g.stack } := by
      refine e3.trans ?_
      rw [hf₂, State.calling_eq h.top, State.setFrames_setFrames, State.setTop_of_frames _ hr', hr]
      rfl
    have hsame : U.sameButNew ({ U with heap := s₂.heap, slotsUsed := s₂.slotsUsed } : State) L mc ms := by
      refine ⟨?_, q2, q3, q4, q5, q6⟩
      obtain ⟨t, ht, -⟩ := State.frames_cons hr
      show ({ U with heap := s₂.heap, slotsUsed := s₂.slotsUsed } : State) = { U.setFrames U.frames with heap := s₂.heap, slotsUsed := s₂.slotsUsed }
      rw [State.setFrames_self ht]
    subst hg
    refine Or.inl ⟨v, ⟨(({ U with heap := s₂.heap, slotsUsed := s₂.slotsUsed } : State).setVm s₂.vm), Ls ++ L, c0 + mc, s0 + ms⟩,
      ⟨X.admits, X.cas, X.clock, X.frames, X.room, X.hears, X.method, X.code, (X.here.setHeapUsed s₂.heap s₂.slotsUsed).setVm hW'.alike, X.tail, State.WarmedH.trans X.warmed hW', X.limits, X.bytes, X.same.trans (hsame.setVm s.vm)⟩,
      ⟨g, mk, s₂, L, rfl, rfl, hqc, rfl, hL, rfl, rfl⟩, ?_⟩
    show Steps p.tables e below _ ((({ U with heap := s₂.heap, slotsUsed := s₂.slotsUsed } : State).setVm s₂.vm).setTop { g with pc := g.pc + len₂, stack := v.toList ++ g.stack })
    rw [← hs₂]
    exact hsteps
  · obtain ⟨e2, q2, q3, q4, q5, q6⟩ := id hsm
    have e3 : s₂ = ({ (U.calling g mk a).setFrames s₂.frames with heap := s₂.heap, slotsUsed := s₂.slotsUsed } : State).setVm s₂.vm := by
      have : s₂ = ({ s₂ with vm := (U.calling g mk a).vm } : State).setVm s₂.vm := rfl
      rw [e2] at this
      exact this
    have hf₂ : s₂.frames = .throwing q :: .java g :: U.frames.tail := hend
    have hW' : U.WarmedH s₂.vm := hW₂
    have hs₂ : s₂ = ((({ U with heap := s₂.heap, slotsUsed := s₂.slotsUsed } : State).setVm s₂.vm).setTop g).pushFrame (.throwing q) := by
      refine e3.trans ?_
      rw [hf₂, State.calling_eq h.top, State.setFrames_setFrames, State.pushFrame, State.frames_setTop _ hr', State.setTop_of_frames _ hr', State.setFrames_setFrames, hr]
      rfl
    have hsame : U.sameButNew ({ U with heap := s₂.heap, slotsUsed := s₂.slotsUsed } : State) L mc ms := by
      refine ⟨?_, q2, q3, q4, q5, q6⟩
      obtain ⟨t, ht, -⟩ := State.frames_cons hr
      show ({ U with heap := s₂.heap, slotsUsed := s₂.slotsUsed } : State) = { U.setFrames U.frames with heap := s₂.heap, slotsUsed := s₂.slotsUsed }
      rw [State.setFrames_self ht]
    subst hg
    refine Or.inr ⟨q, ⟨(({ U with heap := s₂.heap, slotsUsed := s₂.slotsUsed } : State).setVm s₂.vm), Ls ++ L, c0 + mc, s0 + ms⟩,
      ⟨X.admits, X.cas, X.clock, X.frames, X.room, X.hears, X.method, X.code, (X.here.setHeapUsed s₂.heap s₂.slotsUsed).setVm hW'.alike, X.tail, State.WarmedH.trans X.warmed hW', X.limits, X.bytes, X.same.trans (hsame.setVm s.vm)⟩,
      ⟨g, mk, s₂, L, E, ce, rfl, rfl, hx, hce, hcv, hcl, rfl, hL, rfl, rfl⟩, ?_⟩
    show Steps p.tables e below _ (((({ U with heap := s₂.heap, slotsUsed := s₂.slotsUsed } : State).setVm s₂.vm).setTop g).pushFrame (.throwing q))
    rw [← hs₂]
    exact hsteps
end
variable {p : Program} {l : Launch} {e : Env} {R : Room} {s : State} {m : MethodId} {args : Array Value} {below : List Frame} {meth : Method} {c : Code} {T : State} {H : Heap} {locs : List Loc} {cells slots : Nat}
theorem vx_callVX (X : Stand p l e R s m args below meth c T locs cells slots) (hexec : p.tables.exec = Jvm.exec) {own C : String} {index : Nat} {y : MethodName} {bytes : ByteArray} {maxL : Nat} {ret : Option FieldType} {hh : List (Nat × Nat × Nat × Nat)}
    (hown : s.vm.findClass own = some m.cls) (hlink : (Cond.methodLink own index y).before args s = true) (hinst : (Cond.instanceMethod y).before args s = true) (hsel : (Cond.selects C y y).before args s = true)
    (hcode : (Cond.codeWith y bytes maxL ret hh).before args s = true) (hy : y.cls ≠ "java/lang/invoke/MethodHandle" ∧ y.cls ≠ "java/lang/invoke/VarHandle")
    {W9 : Nat} {Pre : Pt → Array Value → Prop} {Post : Pt → Array Value → Option Value → Pt → Prop} {PostX : Pt → Array Value → Addr → Pt → Prop} (hK : vx_Back l R p e below s args y 3 W9 Pre Post PostX)
    {b : Addr} {cellB : Cell} (hcell : T.heap[b]? = some cellB) (hobj : cellB.vm.isStatics = false) (hcls : s.vm.findClass C = some cellB.cls)
    {g : JFrame} (hg : g.method = m) (hsize : g.locals.size = c.maxLocals) {argsL rest : List Value} (hlen : ∀ sig, parseMethodDescriptor y.desc = some sig → argsL.length = sig.parameters.length)
    (hstack : g.stack = argsL.reverse ++ .ref b :: rest) (hW : 2 * g.monitorRoom + (rest.map fun v => v.category).sum ≤ W9) (hdg : decode c.code g.pc = .ok (.invokevirtual index, 3))
    (hpre : ∀ vm₁, s.WarmedH vm₁ → Pre ⟨T.setVm vm₁, locs, cells, slots⟩ (Value.ref b :: argsL).toArray) :
    (∃ (v : Option Value) (vm₁ : Vm) (B : Pt), s.WarmedH vm₁ ∧ Stand p l e R s m args below meth c B.U B.locs B.cells B.slots ∧ Post ⟨T.setVm vm₁, locs, cells, slots⟩ (Value.ref b :: argsL).toArray v B ∧
      ∀ target, Steps p.tables e below (B.U.setTop { g with pc := g.pc + 3, stack := v.toList ++ rest }) target → Steps p.tables e below (T.setTop g) target) ∨
    (∃ (q : Addr) (vm₁ : Vm) (B : Pt), s.WarmedH vm₁ ∧ Stand p l e R s m args below meth c B.U B.locs B.cells B.slots ∧ PostX ⟨T.setVm vm₁, locs, cells, slots⟩ (Value.ref b :: argsL).toArray q B ∧
      Steps p.tables e below (T.setTop g) ((B.U.setTop { g with stack := rest }).pushFrame (.throwing q))) := by
  obtain ⟨mk, methM, hnamed, hmethM, hstM, habM⟩ := Cond.instanceMethod_spec hinst
  obtain ⟨m8, methM', cM, hn8, hmethM', -, -, -, -, -, -, hsigM⟩ := Cond.codeWith_spec hcode
  cases Option.some.inj (hn8.symm.trans hnamed)
  cases hmethM.symm.trans hmethM'
  obtain ⟨c2, r2, m2, q1, q2, q3, q4, kP, hkP, hkPi⟩ := Cond.selects_spec hsel
  cases hcls.symm.trans q1
  cases (State.methodFound?_of_named hnamed hy).symm.trans q2
  cases hnamed.symm.trans q3
  have hselP : selectMethod e.platform s.vm cellB.cls mk = .method mk := by rw [Launch.admits_selectMethod X.admits]; exact q4
  obtain ⟨vm₁, X₁, hstep₁⟩ := X.invokevirtual hexec hown hlink hnamed hmethM hstM hkP hkPi hy (a := b) (cell := cellB) hcell
    (fun z h => by rw [h] at hobj; cases hobj) hselP hmethM habM hkP hkPi (g := g) hg (argsL := argsL) (rest := rest) (hlen _ hsigM) hstack hdg
  rcases hK m meth c ⟨T.setVm vm₁, locs, cells, slots⟩ { g with stack := rest } (.invokevirtual index) mk (Value.ref b :: argsL).toArray X₁ hg hsize hdg hW (X₁.named hnamed) (hpre vm₁ X₁.warmed) with ⟨v, B, X', hpost, hsteps⟩ | ⟨q, B, X', hpost, hsteps⟩
  · exact Or.inl ⟨v, vm₁, B, X₁.warmed, X', hpost, fun target h => hstep₁ _ fun acts => by rw [doInvoke_state]; exact hsteps.trans h⟩
  · exact Or.inr ⟨q, vm₁, B, X₁.warmed, X', hpost, hstep₁ _ fun acts => by rw [doInvoke_state]; exact hsteps⟩
theorem vx_callSX (X : Stand p l e R s m args below meth c T locs cells slots) (hexec : p.tables.exec = Jvm.exec) {own : String} {index : Nat} {y : MethodName} {bytes : ByteArray} {maxL : Nat} {ret : Option FieldType} {hh : List (Nat × Nat × Nat × Nat)}
    (hown : s.vm.findClass own = some m.cls) (hlink : (Cond.methodLink own index y).before args s = true) (hstat : (Cond.static y).before args s = true) (hinit : (Cond.initialized y.cls).before args s = true)
    (hcode : (Cond.codeWith y bytes maxL ret hh).before args s = true) (hy : y.cls ≠ "java/lang/invoke/MethodHandle" ∧ y.cls ≠ "java/lang/invoke/VarHandle")
    {W9 : Nat} {Pre : Pt → Array Value → Prop} {Post : Pt → Array Value → Option Value → Pt → Prop} {PostX : Pt → Array Value → Addr → Pt → Prop} (hK : vx_Back l R p e below s args y 3 W9 Pre Post PostX)
    {g : JFrame} (hg : g.method = m) (hsize : g.locals.size = c.maxLocals) {argsL rest : List Value} (hlen : ∀ sig, parseMethodDescriptor y.desc = some sig → argsL.length = sig.parameters.length)
    (hstack : g.stack = argsL.reverse ++ rest) (hW : 2 * g.monitorRoom + (rest.map fun v => v.category).sum ≤ W9) (hdg : decode c.code g.pc = .ok (.invokestatic index, 3))
    (hpre : ∀ vm₁, s.WarmedH vm₁ → Pre ⟨T.setVm vm₁, locs, cells, slots⟩ argsL.toArray) :
    (∃ (v : Option Value) (vm₁ : Vm) (B : Pt), s.WarmedH vm₁ ∧ Stand p l e R s m args below meth c B.U B.locs B.cells B.slots ∧ Post ⟨T.setVm vm₁, locs, cells, slots⟩ argsL.toArray v B ∧
      ∀ target, Steps p.tables e below (B.U.setTop { g with pc := g.pc + 3, stack := v.toList ++ rest }) target → Steps p.tables e below (T.setTop g) target) ∨
    (∃ (q : Addr) (vm₁ : Vm) (B : Pt), s.WarmedH vm₁ ∧ Stand p l e R s m args below meth c B.U B.locs B.cells B.slots ∧ PostX ⟨T.setVm vm₁, locs, cells, slots⟩ argsL.toArray q B ∧
      Steps p.tables e below (T.setTop g) ((B.U.setTop { g with stack := rest }).pushFrame (.throwing q))) := by
  obtain ⟨mk, methM, cM, hnamed, hmethM, -, -, -, -, -, -, hsigM⟩ := Cond.codeWith_spec hcode
  have hstatic : methM.isStatic = true := Cond.static_spec hnamed hmethM hstat
  obtain ⟨kP, hkP, -⟩ := className_of_methodNamed hnamed
  have hinitP : kP.init = .initialized := Cond.initialized_spec (findClass_of_methodNamed hnamed) hkP hinit
  obtain ⟨vm₁, X₁, hstep₁⟩ := X.invokestatic hexec hown hlink hnamed hmethM hstatic hkP hinitP hy (g := g) hg (argsL := argsL) (rest := rest) (hlen _ hsigM) hstack hdg
  rcases hK m meth c ⟨T.setVm vm₁, locs, cells, slots⟩ { g with stack := rest } (.invokestatic index) mk argsL.toArray X₁ hg hsize hdg hW (X₁.named hnamed) (hpre vm₁ X₁.warmed) with ⟨v, B, X', hpost, hsteps⟩ | ⟨q, B, X', hpost, hsteps⟩
  · exact Or.inl ⟨v, vm₁, B, X₁.warmed, X', hpost, fun target h => hstep₁ _ fun acts => by rw [doInvoke_state]; exact hsteps.trans h⟩
  · exact Or.inr ⟨q, vm₁, B, X₁.warmed, X', hpost, hstep₁ _ fun acts => by rw [doInvoke_state]; exact hsteps⟩
theorem vx_callVW (X : Stand p l e R s m args below meth c T locs cells slots) (hexec : p.tables.exec = Jvm.exec) {own C : String} {index : Nat} {y : MethodName} {bytes : ByteArray} {maxL : Nat} {ret : Option FieldType} {hh : List (Nat × Nat × Nat × Nat)}
    (hown : s.vm.findClass own = some m.cls) (hlink : (Cond.methodLink own index y).before args s = true) (hinst : (Cond.instanceMethod y).before args s = true) (hsel : (Cond.selects C y y).before args s = true)
    (hcode : (Cond.codeWith y bytes maxL ret hh).before args s = true) (hy : y.cls ≠ "java/lang/invoke/MethodHandle" ∧ y.cls ≠ "java/lang/invoke/VarHandle")
    {W9 : Nat} {Pre : Pt → Array Value → Prop} {Post : Pt → Array Value → Option Value → Pt → Prop} (hK : Back l R p e below s args y 3 W9 Pre Post)
    {b : Addr} {cellB : Cell} (hcell : T.heap[b]? = some cellB) (hobj : cellB.vm.isStatics = false) (hcls : s.vm.findClass C = some cellB.cls)
    {g : JFrame} (hg : g.method = m) (hsize : g.locals.size = c.maxLocals) {argsL rest : List Value} (hlen : ∀ sig, parseMethodDescriptor y.desc = some sig → argsL.length = sig.parameters.length)
    (hstack : g.stack = argsL.reverse ++ .ref b :: rest) (hW : 2 * g.monitorRoom + (rest.map fun v => v.category).sum ≤ W9) (hdg : decode c.code g.pc = .ok (.invokevirtual index, 3))
    (hpre : ∀ vm₁, s.WarmedH vm₁ → Pre ⟨T.setVm vm₁, locs, cells, slots⟩ (Value.ref b :: argsL).toArray) :
    ∃ (v : Option Value) (vm₁ : Vm) (B : Pt), s.WarmedH vm₁ ∧ Stand p l e R s m args below meth c B.U B.locs B.cells B.slots ∧ Post ⟨T.setVm vm₁, locs, cells, slots⟩ (Value.ref b :: argsL).toArray v B ∧
      ∀ target, Steps p.tables e below (B.U.setTop { g with pc := g.pc + 3, stack := v.toList ++ rest }) target → Steps p.tables e below (T.setTop g) target := by
  obtain ⟨mk, methM, hnamed, hmethM, hstM, habM⟩ := Cond.instanceMethod_spec hinst
  obtain ⟨m8, methM', cM, hn8, hmethM', -, -, -, -, -, -, hsigM⟩ := Cond.codeWith_spec hcode
  cases Option.some.inj (hn8.symm.trans hnamed)
  cases hmethM.symm.trans hmethM'
  obtain ⟨c2, r2, m2, q1, q2, q3, q4, kP, hkP, hkPi⟩ := Cond.selects_spec hsel
  cases hcls.symm.trans q1
  cases (State.methodFound?_of_named hnamed hy).symm.trans q2
  cases hnamed.symm.trans q3
  have hselP : selectMethod e.platform s.vm cellB.cls mk = .method mk := by rw [Launch.admits_selectMethod X.admits]; exact q4
  obtain ⟨vm₁, X₁, hstep₁⟩ := X.invokevirtual hexec hown hlink hnamed hmethM hstM hkP hkPi hy (a := b) (cell := cellB) hcell
    (fun z h => by rw [h] at hobj; cases hobj) hselP hmethM habM hkP hkPi (g := g) hg (argsL := argsL) (rest := rest) (hlen _ hsigM) hstack hdg
  obtain ⟨v, B, X', hpost, hsteps⟩ := hK m meth c ⟨T.setVm vm₁, locs, cells, slots⟩ { g with stack := rest } (.invokevirtual index) mk (Value.ref b :: argsL).toArray X₁ hg hsize hdg hW (X₁.named hnamed) (hpre vm₁ X₁.warmed)
  exact ⟨v, vm₁, B, X₁.warmed, X', hpost, fun target h => hstep₁ _ fun acts => by rw [doInvoke_state]; exact hsteps.trans h⟩
abbrev vx_CVW (R : Room) (s : State) (args : Array Value) (own C : String) (index : Nat) (y : MethodName) (bytes : ByteArray) (maxL : Nat) (ret : Option FieldType) (hh : List (Nat × Nat × Nat × Nat)) (ws : List Cond) (rm : Room) (mc ms n : Nat) : Prop :=
  (rm.cells = mc ∧ rm.slots = ms ∧ rm.frames + 1 ≤ R.frames ∧ 8 + (maxL + 11) + rm.locals ≤ R.locals ∧ (∀ w ∈ ws, ∀ (a' : Array Value) (U : State), s.WarmedH U.vm → w.before a' U = true) ∧ Cond.codeWith y bytes maxL ret hh ∈ ws) ∧
  (Cond.codeWith y bytes maxL ret hh).before args s = true ∧ (Cond.initialized y.cls).before args s = true ∧ (y.cls ≠ "java/lang/invoke/MethodHandle" ∧ y.cls ≠ "java/lang/invoke/VarHandle") ∧
  (∀ sig, parseMethodDescriptor y.desc = some sig → n = sig.parameters.length) ∧ (Cond.methodLink own index y).before args s = true ∧ (Cond.instanceMethod y).before args s = true ∧ (Cond.selects C y y).before args s = true
theorem vx_cwVW {own C : String} {index maxL mc ms : Nat} {y : MethodName} {bytes : ByteArray} {ret : Option FieldType} {hh : List (Nat × Nat × Nat × Nat)} {Ts ws ws' : List Cond} {rm : Room} (n : Nat) (ht : ∀ w ∈ Ts, w.before args s = true) (hT : GoodIn Ts (wsV own index C y ws)) (hw : ws = Cond.codeWith y bytes maxL ret hh :: ws') (hrc : rm.cells = mc) (hrs : rm.slots = ms)
    (hd : y.cls = C ∧ y.cls ≠ "java/lang/invoke/MethodHandle" ∧ y.cls ≠ "java/lang/invoke/VarHandle" ∧ (parseMethodDescriptor y.desc).map (fun d => d.parameters.length) = some n) (hR : rm.frames + 1 ≤ R.frames ∧ 8 + (maxL + 11) + rm.locals ≤ R.locals) :
    vx_CVW R s args own C index y bytes maxL ret hh ws rm mc ms n := by
  obtain ⟨hC, hd⟩ := hd
  subst hC
  have ok : ∀ w ∈ wsV own index y.cls y ws, w.before args s = true := fun w h => ht w (hT w h).1
  have hG : GoodIn Ts ws := fun w h => hT w (by unfold wsV; exact List.mem_append_right _ h)
  have hc : Cond.codeWith y bytes maxL ret hh ∈ ws := by rw [hw]; exact List.mem_cons_self
  refine ⟨⟨hrc, hrs, hR.1, hR.2, pay_in ht hG, hc⟩, ht _ (hG _ hc).1, ok _ (by simp [wsV]), ⟨hd.1, hd.2.1⟩, fun sig h => ?_, ok _ (by simp [wsV]), ok _ (by simp [wsV]), ok _ (by simp [wsV])⟩
  have h2 := hd.2.2
  rw [h] at h2
  exact (Option.some.inj h2).symm
theorem vx_runVW {y : MethodName} {bytes cc : ByteArray} {maxL nL mc ms n index : Nat} {ret : Option FieldType} {hh : List (Nat × Nat × Nat × Nat)} {ws : List Cond} {rm : Room} {Pc : Array Value → State → Prop} {Qc : Array Value → State → Outcome → State → Prop} {free : Addr → Prop} {Ts : List Cond} {own C : String} {b : Addr} {As rest : List Value} {g : JFrame}
    (S : CallFix p m c cc nL s args Ts own) (hM : Met l y ws rm Pc Qc mc ms free) (cw : vx_CVW R s args own C index y bytes maxL ret hh ws rm mc ms n) (hp : PreV s H C b Pc As)
    (hg : g.method = m) (hn : As.length = n) (hsize : g.locals.size = nL) (hstack : g.stack = As.reverse ++ .ref b :: rest) (hW : 2 * g.monitorRoom + (rest.map fun v => v.category).sum ≤ 8) (hdg : decode cc g.pc = .ok (.invokevirtual index, 3)) (hf : cells + mc ≤ R.cells ∧ slots + ms ≤ R.slots) :
    va_Run p l e R s m args below meth c H locs cells slots mc ms g rest (Qc (Value.ref b :: As).toArray) free := by
  obtain ⟨⟨hrc, hrs, hfr, hlo, hws, hcw⟩, hcode, hini, hy, hlen, hl, hin, hse⟩ := cw
  have hK : Back l R p e below s args y 3 8 (PreOf R mc ms Pc) (PostOf Qc mc ms free) := va_backW (hh := hh) (bytes := bytes) (maxL := maxL) (ret := ret) hM hp.1 hrc hrs hfr hlo hws hcw (fun a' U hW => word_at hW (Or.inl (by first | rfl | simp [Cond.onTables, Cond.keeps, Cond.steady])) hini)
  obtain ⟨hx, hb, hml, ho, -⟩ := S
  obtain ⟨-, ⟨cellB, hcB, hoB, hclB⟩, hPc⟩ := hp
  intro T hT X
  obtain ⟨v, vm₁, ⟨U', l2, c2, s2⟩, hW₁, X', ⟨g', mk, t, L, e1, e2, hq, h1, hL, h2, h3⟩, st⟩ := vx_callVW X hx (C := C) (hh := hh) (bytes := bytes) (maxL := maxL) (ret := ret) ho hl hin hse hcode hy hK (by rw [hT]; exact hcB) hoB hclB hg (hsize.trans hml.symm) (argsL := As) (rest := rest) (fun sig h => hn.trans (hlen sig h)) hstack hW (by rw [hb]; exact hdg)
    (fun vm₁ hW₁ => ⟨hf.1, hf.2, hPc (T.setVm vm₁) hT hW₁⟩)
  dsimp only [Pt.U, Pt.locs, Pt.cells, Pt.slots] at X' e1 e2 h1 h2 h3 st
  subst h1; subst h2; subst h3
  exact ⟨v, (T.setVm vm₁).calling g' mk (Value.ref b :: As).toArray, t, U', L, hT, X', hL, e1, e2, hq, st⟩
section
variable {y : MethodName} {bytes cc : ByteArray} {maxL nL mc ms n index : Nat} {ret : Option FieldType} {ws : List Cond} {rm : Room} {Pc : Array Value → State → Prop} {Qc : Array Value → State → Outcome → State → Prop} {XC : String → State → State → Prop} {free : Addr → Prop} {Ts : List Cond} {own C : String} {b : Addr} {As rest : List Value} {g : JFrame}
theorem vx_runVX {hh : List (Nat × Nat × Nat × Nat)} (S : CallFix p m c cc nL s args Ts own) (hM : vx_Met l y ws rm Pc Qc XC mc ms free) (cw : vx_CVW R s args own C index y bytes maxL ret hh ws rm mc ms n) (hp : PreV s H C b Pc As)
    (hg : g.method = m) (hn : As.length = n) (hsize : g.locals.size = nL) (hstack : g.stack = As.reverse ++ .ref b :: rest) (hW : 2 * g.monitorRoom + (rest.map fun v => v.category).sum ≤ 8) (hdg : decode cc g.pc = .ok (.invokevirtual index, 3)) (hf : cells + mc ≤ R.cells ∧ slots + ms ≤ R.slots) :
    vx_Run p l e R s m args below meth c H locs cells slots mc ms g rest (Qc (Value.ref b :: As).toArray) XC free := by
  obtain ⟨⟨hrc, hrs, hfr, hlo, hws, hcw⟩, hcode, hini, hy, hlen, hl, hin, hse⟩ := cw
  have hK : vx_Back l R p e below s args y 3 8 (PreOf R mc ms Pc) (PostOf Qc mc ms free) (vx_Post XC mc ms free) := vx_backW (hh := hh) (bytes := bytes) (maxL := maxL) (ret := ret) hM hp.1 hrc hrs hfr hlo hws hcw (fun a' U hW => word_at hW (Or.inl (by first | rfl | simp [Cond.onTables, Cond.keeps, Cond.steady])) hini)
  obtain ⟨hx, hb, hml, ho, -⟩ := S
  obtain ⟨-, ⟨cellB, hcB, hoB, hclB⟩, hPc⟩ := hp
  intro T hT X
  rcases vx_callVX X hx (C := C) (hh := hh) (bytes := bytes) (maxL := maxL) (ret := ret) ho hl hin hse hcode hy hK (by rw [hT]; exact hcB) hoB hclB hg (hsize.trans hml.symm) (argsL := As) (rest := rest) (fun sig h => hn.trans (hlen sig h)) hstack hW (by rw [hb]; exact hdg)
    (fun vm₁ hW₁ => ⟨hf.1, hf.2, hPc (T.setVm vm₁) hT hW₁⟩) with ⟨v, vm₁, ⟨U', l2, c2, s2⟩, hW₁, X', ⟨g', mk, t, L, e1, e2, hq, h1, hL, h2, h3⟩, st⟩ | ⟨q, vm₁, ⟨U', l2, c2, s2⟩, hW₁, X', ⟨g', mk, t, L, E, ce, e1, e2, hq, hce, hcv, hcl, h1, hL, h2, h3⟩, st⟩
  · dsimp only [Pt.U, Pt.locs, Pt.cells, Pt.slots] at X' e1 e2 h1 h2 h3 st
    subst h1; subst h2; subst h3
    exact Or.inl ⟨v, (T.setVm vm₁).calling g' mk (Value.ref b :: As).toArray, t, U', L, hT, X', hL, e1, e2, hq, st⟩
  · dsimp only [Pt.U, Pt.locs, Pt.cells, Pt.slots] at X' e1 e2 h1 h2 h3 st hcl
    subst h1; subst h2; subst h3
    exact Or.inr ⟨q, (T.setVm vm₁).calling g' mk (Value.ref b :: As).toArray, t, U', L, E, ce, hT, X', hL, e1, e2, hq, hce, hcv, vx_cls hW₁ hcl, st⟩
theorem vx_runSX {hh : List (Nat × Nat × Nat × Nat)} (S : CallFix p m c cc nL s args Ts own) (hM : vx_Met l y ws rm Pc Qc XC mc ms free) (cw : vx_CSW R s args own index y bytes maxL ret hh ws rm mc ms n) (hp : PreS s H Pc As)
    (hg : g.method = m) (hn : As.length = n) (hsize : g.locals.size = nL) (hstack : g.stack = As.reverse ++ rest) (hW : 2 * g.monitorRoom + (rest.map fun v => v.category).sum ≤ 8) (hdg : decode cc g.pc = .ok (.invokestatic index, 3)) (hf : cells + mc ≤ R.cells ∧ slots + ms ≤ R.slots) :
    vx_Run p l e R s m args below meth c H locs cells slots mc ms g rest (Qc As.toArray) XC free := by
  obtain ⟨⟨hrc, hrs, hfr, hlo, hws, hcw⟩, hcode, hini, hy, hlen, hl, hstt⟩ := cw
  have hK : vx_Back l R p e below s args y 3 8 (PreOf R mc ms Pc) (PostOf Qc mc ms free) (vx_Post XC mc ms free) := vx_backW (hh := hh) (bytes := bytes) (maxL := maxL) (ret := ret) hM hp.1 hrc hrs hfr hlo hws hcw (fun a' U hW => word_at hW (Or.inl (by first | rfl | simp [Cond.onTables, Cond.keeps, Cond.steady])) hini)
  obtain ⟨hx, hb, hml, ho, -⟩ := S
  intro T hT X
  rcases vx_callSX X hx (hh := hh) (bytes := bytes) (maxL := maxL) (ret := ret) ho hl hstt hini hcode hy hK hg (hsize.trans hml.symm) (argsL := As) (rest := rest) (fun sig h => hn.trans (hlen sig h)) hstack hW (by rw [hb]; exact hdg)
    (fun vm₁ hW₁ => ⟨hf.1, hf.2, hp.2 (T.setVm vm₁) hT hW₁⟩) with ⟨v, vm₁, ⟨U', l2, c2, s2⟩, hW₁, X', ⟨g', mk, t, L, e1, e2, hq, h1, hL, h2, h3⟩, st⟩ | ⟨q, vm₁, ⟨U', l2, c2, s2⟩, hW₁, X', ⟨g', mk, t, L, E, ce, e1, e2, hq, hce, hcv, hcl, h1, hL, h2, h3⟩, st⟩
  · dsimp only [Pt.U, Pt.locs, Pt.cells, Pt.slots] at X' e1 e2 h1 h2 h3 st
    subst h1; subst h2; subst h3
    exact Or.inl ⟨v, (T.setVm vm₁).calling g' mk As.toArray, t, U', L, hT, X', hL, e1, e2, hq, st⟩
  · dsimp only [Pt.U, Pt.locs, Pt.cells, Pt.slots] at X' e1 e2 h1 h2 h3 st hcl
    subst h1; subst h2; subst h3
    exact Or.inr ⟨q, (T.setVm vm₁).calling g' mk As.toArray, t, U', L, E, ce, hT, X', hL, e1, e2, hq, hce, hcv, vx_cls hW₁ hcl, st⟩
end
end VXH
theorem vx_ofWH {l : Launch} {y : MethodName} {ws ws' : List Cond} {rm : Room} {Pc : Array Value → State → Prop} {Qc : Array Value → State → Outcome → State → Prop} {XC : String → State → State → Prop} {mc ms : Nat} {free : Addr → Prop} {cc : ByteArray} {maxL : Nat} {ret : Option FieldType} {hh : List (Nat × Nat × Nat × Nat)}
    (hy : plainName y.cls = true) (hw : ws = Cond.codeWith y cc maxL ret hh :: ws')
    (body : ∀ p e s m args below meth c s₁, BodyLoose p l y (headSpec ws rm) cc maxL ret e s m args below meth c s₁ → c.maxLocals = maxL → Pc args s →
      W p l e (headSpec ws rm).room s m args below meth c s.heap [] 0 0 (vx_MQ below Qc XC args s mc ms free) (entryFrame m args maxL)) : vx_Met l y ws rm Pc Qc XC mc ms free := by
  refine MetFree.of_bodyS (code := cc) (maxLocals := maxL) (ret := ret) hy ?_ ?_
  · intro args s m h hn
    obtain ⟨m9, meth, c, hn9, h1, h2, h3, h4, -, h5, h6, -⟩ := Cond.codeWith_spec (atoms_spec (ws := ws) h _ (by rw [hw]; exact List.mem_cons_self))
    cases hn.symm.trans hn9
    exact ⟨meth, c, h1, h2, h3, h4, h5, h6⟩
  · intro p e s m args below meth c s₁ B hml hP _
    have hh0 : s₁.heap = s.heap := by rw [B.state]; rfl
    obtain ⟨t, a1, o, b1, b2, b3⟩ := body p e s m args below meth c s₁ B hml hP s₁ hh0 (Stand.of_body B)
    exact ⟨t, o, a1, b1, b2, b3⟩
/-! ===== END ===== -/

/-! ===== BEGIN printed: names, fields, word lists, decode rows ===== -/
def RX0 : String := "NestCells"
def TX0 : u_T := fun k => match k with
  | 0 => ("NestCells", "words", "[I", true)
  | 1 => ("NestCells", "cells", "[I", true)
  | 2 => ("NestCells", "levelName", "[I", true)
  | 3 => ("NestCells", "traceLevel", "[I", true)
  | 4 => ("NestCells", "traceCell", "[I", true)
  | 5 => ("NestCells", "traceWas", "[I", true)
  | 6 => ("NestCells", "transactions", "I", false)
  | 7 => ("NestCells", "levels", "I", false)
  | 8 => ("NestCells", "traces", "I", false)
  | 9 => ("NestCells", "writesTillCrash", "I", false)
  | 10 => ("NestCells", "writesInAll", "I", false)
  | _ => ("NestCells", "off", "Z", false)
def tyX0 : Nat → FieldType := fun k => match k with
  | 0 => .array .int
  | 1 => .array .int
  | 2 => .array .int
  | 3 => .array .int
  | 4 => .array .int
  | 5 => .array .int
  | 6 => .int
  | 7 => .int
  | 8 => .int
  | 9 => .int
  | 10 => .int
  | _ => .boolean
abbrev wsX00 : List Cond := u_ws RX0 TX0 12
theorem nmX0 : ∀ a, a < 12 → ∀ b, b < 12 → a ≠ b → (TX0 a).2.1 ≠ (TX0 b).2.1 := by decide +kernel
theorem tyX0_ok : ∀ k, k < 12 → parseFieldDescriptor (TX0 k).2.2.1 = some (tyX0 k) := by decide +kernel
abbrev cX0_init : ByteArray := prog_1_method_1_code
def yX0_init : MethodName := ⟨RX0, "<init>", "()V"⟩
abbrev cX0_format : ByteArray := prog_1_method_2_code
def yX0_format : MethodName := ⟨RX0, "format", "()V"⟩
abbrev cX0_begin : ByteArray := prog_1_method_3_code
def yX0_begin : MethodName := ⟨RX0, "begin", "()I"⟩
abbrev cX0_write : ByteArray := prog_1_method_4_code
def yX0_write : MethodName := ⟨RX0, "write", "(II)I"⟩
abbrev cX0_read : ByteArray := prog_1_method_5_code
def yX0_read : MethodName := ⟨RX0, "read", "(I)I"⟩
abbrev cX0_commit : ByteArray := prog_1_method_6_code
def yX0_commit : MethodName := ⟨RX0, "commit", "()I"⟩
abbrev cX0_abort : ByteArray := prog_1_method_7_code
def yX0_abort : MethodName := ⟨RX0, "abort", "()I"⟩
abbrev cX0_point : ByteArray := prog_1_method_8_code
def yX0_point : MethodName := ⟨RX0, "point", "(I)I"⟩
abbrev cX0_back : ByteArray := prog_1_method_9_code
def yX0_back : MethodName := ⟨RX0, "back", "(I)I"⟩
abbrev cX0_release : ByteArray := prog_1_method_10_code
def yX0_release : MethodName := ⟨RX0, "release", "(I)I"⟩
abbrev cX0_crash : ByteArray := prog_1_method_11_code
def yX0_crash : MethodName := ⟨RX0, "crash", "(I)V"⟩
abbrev cX0_recover : ByteArray := prog_1_method_12_code
def yX0_recover : MethodName := ⟨RX0, "recover", "()I"⟩
abbrev cX0_disk : ByteArray := prog_1_method_13_code
def yX0_disk : MethodName := ⟨RX0, "disk", "(I)I"⟩
abbrev cX0_spoil : ByteArray := prog_1_method_14_code
def yX0_spoil : MethodName := ⟨RX0, "spoil", "(II)I"⟩
abbrev cX0_level : ByteArray := prog_1_method_15_code
def yX0_level : MethodName := ⟨RX0, "level", "(II)I"⟩
abbrev cX0_about : ByteArray := prog_1_method_16_code
def yX0_about : MethodName := ⟨RX0, "about", "(I)I"⟩
abbrev cX0_needPower : ByteArray := prog_1_method_17_code
def yX0_needPower : MethodName := ⟨RX0, "needPower", "()V"⟩
abbrev cX0_needTransaction : ByteArray := prog_1_method_18_code
def yX0_needTransaction : MethodName := ⟨RX0, "needTransaction", "()V"⟩
abbrev cX0_needCell : ByteArray := prog_1_method_19_code
def yX0_needCell : MethodName := ⟨RX0, "needCell", "(I)V"⟩
abbrev cX0_needWord : ByteArray := prog_1_method_20_code
def yX0_needWord : MethodName := ⟨RX0, "needWord", "(I)V"⟩
abbrev cX0_needName : ByteArray := prog_1_method_21_code
def yX0_needName : MethodName := ⟨RX0, "needName", "(I)V"⟩
abbrev cX0_needPoint : ByteArray := prog_1_method_22_code
def yX0_needPoint : MethodName := ⟨RX0, "needPoint", "(I)I"⟩
abbrev cX0_isCell : ByteArray := prog_1_method_23_code
def yX0_isCell : MethodName := ⟨RX0, "isCell", "(I)Z"⟩
abbrev cX0_holds : ByteArray := prog_1_method_24_code
def yX0_holds : MethodName := ⟨RX0, "holds", "(II)Z"⟩
abbrev cX0_forgetTransactions : ByteArray := prog_1_method_25_code
def yX0_forgetTransactions : MethodName := ⟨RX0, "forgetTransactions", "()V"⟩
abbrev cX0_openLevel : ByteArray := prog_1_method_26_code
def yX0_openLevel : MethodName := ⟨RX0, "openLevel", "(I)V"⟩
abbrev cX0_innermostLevel : ByteArray := prog_1_method_27_code
def yX0_innermostLevel : MethodName := ⟨RX0, "innermostLevel", "()I"⟩
abbrev cX0_points : ByteArray := prog_1_method_28_code
def yX0_points : MethodName := ⟨RX0, "points", "()I"⟩
abbrev cX0_pointLevel : ByteArray := prog_1_method_29_code
def yX0_pointLevel : MethodName := ⟨RX0, "pointLevel", "(I)I"⟩
abbrev cX0_tracedCells : ByteArray := prog_1_method_30_code
def yX0_tracedCells : MethodName := ⟨RX0, "tracedCells", "(I)I"⟩
abbrev cX0_leaveTrace : ByteArray := prog_1_method_31_code
def yX0_leaveTrace : MethodName := ⟨RX0, "leaveTrace", "(II)V"⟩
abbrev cX0_foldLevel : ByteArray := prog_1_method_32_code
def yX0_foldLevel : MethodName := ⟨RX0, "foldLevel", "(I)V"⟩
abbrev cX0_goBack : ByteArray := prog_1_method_33_code
def yX0_goBack : MethodName := ⟨RX0, "goBack", "(I)I"⟩
abbrev cX0_keepOnDisk : ByteArray := prog_1_method_34_code
def yX0_keepOnDisk : MethodName := ⟨RX0, "keepOnDisk", "()V"⟩
abbrev cX0_writeEntries : ByteArray := prog_1_method_35_code
def yX0_writeEntries : MethodName := ⟨RX0, "writeEntries", "(I)V"⟩
abbrev cX0_writeHomes : ByteArray := prog_1_method_36_code
def yX0_writeHomes : MethodName := ⟨RX0, "writeHomes", "(I)V"⟩
abbrev cX0_writeHomesFromEntries : ByteArray := prog_1_method_37_code
def yX0_writeHomesFromEntries : MethodName := ⟨RX0, "writeHomesFromEntries", "(I)I"⟩
abbrev cX0_putWord : ByteArray := prog_1_method_38_code
def yX0_putWord : MethodName := ⟨RX0, "putWord", "(II)V"⟩
def RX1 : String := "NestCellsModel"
def TX1 : u_T := fun k => match k with
  | 0 => ("NestCellsModel", "code", "I", false)
  | 1 => ("NestCellsModel", "cells", "[I", true)
  | 2 => ("NestCellsModel", "disk", "[I", true)
  | 3 => ("NestCellsModel", "were", "[I", true)
  | 4 => ("NestCellsModel", "written", "[I", true)
  | 5 => ("NestCellsModel", "names", "[I", true)
  | 6 => ("NestCellsModel", "levels", "I", false)
  | 7 => ("NestCellsModel", "transactions", "I", false)
  | 8 => ("NestCellsModel", "off", "Z", false)
  | 9 => ("NestCellsModel", "told", "I", false)
  | _ => ("NestCellsModel", "writes", "I", false)
def tyX1 : Nat → FieldType := fun k => match k with
  | 0 => .int
  | 1 => .array .int
  | 2 => .array .int
  | 3 => .array .int
  | 4 => .array .int
  | 5 => .array .int
  | 6 => .int
  | 7 => .int
  | 8 => .boolean
  | 9 => .int
  | _ => .int
abbrev wsX10 : List Cond := u_ws RX1 TX1 11
theorem nmX1 : ∀ a, a < 11 → ∀ b, b < 11 → a ≠ b → (TX1 a).2.1 ≠ (TX1 b).2.1 := by decide +kernel
theorem tyX1_ok : ∀ k, k < 11 → parseFieldDescriptor (TX1 k).2.2.1 = some (tyX1 k) := by decide +kernel
abbrev cX1_init : ByteArray := prog_3_method_1_code
def yX1_init : MethodName := ⟨RX1, "<init>", "()V"⟩
abbrev cX1_thrown : ByteArray := prog_3_method_2_code
def yX1_thrown : MethodName := ⟨RX1, "thrown", "()I"⟩
abbrev cX1_refuses : ByteArray := prog_3_method_3_code
def yX1_refuses : MethodName := ⟨RX1, "refuses", "(I)Z"⟩
abbrev cX1_bits : ByteArray := prog_3_method_4_code
def yX1_bits : MethodName := ⟨RX1, "bits", "(I)I"⟩
abbrev cX1_traces : ByteArray := prog_3_method_5_code
def yX1_traces : MethodName := ⟨RX1, "traces", "()I"⟩
abbrev cX1_isCell : ByteArray := prog_3_method_6_code
def yX1_isCell : MethodName := ⟨RX1, "isCell", "(I)Z"⟩
abbrev cX1_opens : ByteArray := prog_3_method_7_code
def yX1_opens : MethodName := ⟨RX1, "opens", "(I)V"⟩
abbrev cX1_first : ByteArray := prog_3_method_8_code
def yX1_first : MethodName := ⟨RX1, "first", "()I"⟩
abbrev cX1_find : ByteArray := prog_3_method_9_code
def yX1_find : MethodName := ⟨RX1, "find", "(I)I"⟩
abbrev cX1_melts : ByteArray := prog_3_method_10_code
def yX1_melts : MethodName := ⟨RX1, "melts", "(I)V"⟩
abbrev cX1_returns : ByteArray := prog_3_method_11_code
def yX1_returns : MethodName := ⟨RX1, "returns", "(I)I"⟩
abbrev cX1_format : ByteArray := prog_3_method_12_code
def yX1_format : MethodName := ⟨RX1, "format", "()V"⟩
abbrev cX1_begin : ByteArray := prog_3_method_13_code
def yX1_begin : MethodName := ⟨RX1, "begin", "()I"⟩
abbrev cX1_write : ByteArray := prog_3_method_14_code
def yX1_write : MethodName := ⟨RX1, "write", "(II)I"⟩
abbrev cX1_read : ByteArray := prog_3_method_15_code
def yX1_read : MethodName := ⟨RX1, "read", "(I)I"⟩
abbrev cX1_puts : ByteArray := prog_3_method_16_code
def yX1_puts : MethodName := ⟨RX1, "puts", "(II)Z"⟩
abbrev cX1_stores : ByteArray := prog_3_method_17_code
def yX1_stores : MethodName := ⟨RX1, "stores", "(I)Z"⟩
abbrev cX1_commit : ByteArray := prog_3_method_18_code
def yX1_commit : MethodName := ⟨RX1, "commit", "()I"⟩
abbrev cX1_abort : ByteArray := prog_3_method_19_code
def yX1_abort : MethodName := ⟨RX1, "abort", "()I"⟩
abbrev cX1_points : ByteArray := prog_3_method_20_code
def yX1_points : MethodName := ⟨RX1, "points", "()I"⟩
abbrev cX1_point : ByteArray := prog_3_method_21_code
def yX1_point : MethodName := ⟨RX1, "point", "(I)I"⟩
abbrev cX1_wrong : ByteArray := prog_3_method_22_code
def yX1_wrong : MethodName := ⟨RX1, "wrong", "(I)I"⟩
abbrev cX1_back : ByteArray := prog_3_method_23_code
def yX1_back : MethodName := ⟨RX1, "back", "(I)I"⟩
abbrev cX1_release : ByteArray := prog_3_method_24_code
def yX1_release : MethodName := ⟨RX1, "release", "(I)I"⟩
abbrev cX1_crash : ByteArray := prog_3_method_25_code
def yX1_crash : MethodName := ⟨RX1, "crash", "(I)V"⟩
abbrev cX1_recover : ByteArray := prog_3_method_26_code
def yX1_recover : MethodName := ⟨RX1, "recover", "()I"⟩
abbrev cX1_disk : ByteArray := prog_3_method_27_code
def yX1_disk : MethodName := ⟨RX1, "disk", "(I)I"⟩
abbrev cX1_spoil : ByteArray := prog_3_method_28_code
def yX1_spoil : MethodName := ⟨RX1, "spoil", "(II)I"⟩
abbrev cX1_level : ByteArray := prog_3_method_29_code
def yX1_level : MethodName := ⟨RX1, "level", "(II)I"⟩
abbrev cX1_about : ByteArray := prog_3_method_30_code
def yX1_about : MethodName := ⟨RX1, "about", "(I)I"⟩
def RJx145de : String := "java/io/Serializable"
def TJx145de : u_T := fun k => match k with
  | _ => ("", "", "", false)
def tyJx145de : Nat → FieldType := fun k => match k with
  | _ => .int
abbrev wsJx145de0 : List Cond := u_ws RJx145de TJx145de 0
theorem nmJx145de : ∀ a, a < 0 → ∀ b, b < 0 → a ≠ b → (TJx145de a).2.1 ≠ (TJx145de b).2.1 := by decide +kernel
theorem tyJx145de_ok : ∀ k, k < 0 → parseFieldDescriptor (TJx145de k).2.2.1 = some (tyJx145de k) := by decide +kernel
def RJ6 : String := "java/lang/Integer"
def TJ6 : u_T := fun k => match k with
  | _ => ("", "", "", false)
def tyJ6 : Nat → FieldType := fun k => match k with
  | _ => .int
abbrev wsJ60 : List Cond := u_ws RJ6 TJ6 0
theorem nmJ6 : ∀ a, a < 0 → ∀ b, b < 0 → a ≠ b → (TJ6 a).2.1 ≠ (TJ6 b).2.1 := by decide +kernel
theorem tyJ6_ok : ∀ k, k < 0 → parseFieldDescriptor (TJ6 k).2.2.1 = some (tyJ6 k) := by decide +kernel
abbrev cJ6_bitCount_0f7a4 : ByteArray := prog_7_method_49_code
def yJ6_bitCount_0f7a4 : MethodName := ⟨RJ6, "bitCount", "(I)I"⟩
def RJ0 : String := "java/lang/String"
def TJ0 : u_T := fun k => match k with
  | _ => ("", "", "", false)
def tyJ0 : Nat → FieldType := fun k => match k with
  | _ => .int
abbrev wsJ00 : List Cond := u_ws RJ0 TJ0 0
theorem nmJ0 : ∀ a, a < 0 → ∀ b, b < 0 → a ≠ b → (TJ0 a).2.1 ≠ (TJ0 b).2.1 := by decide +kernel
theorem tyJ0_ok : ∀ k, k < 0 → parseFieldDescriptor (TJ0 k).2.2.1 = some (tyJ0 k) := by decide +kernel
def RJ10 : String := "java/lang/System"
def TJ10 : u_T := fun k => match k with
  | _ => ("", "", "", false)
def tyJ10 : Nat → FieldType := fun k => match k with
  | _ => .int
abbrev wsJ100 : List Cond := u_ws RJ10 TJ10 0
theorem nmJ10 : ∀ a, a < 0 → ∀ b, b < 0 → a ≠ b → (TJ10 a).2.1 ≠ (TJ10 b).2.1 := by decide +kernel
theorem tyJ10_ok : ∀ k, k < 0 → parseFieldDescriptor (TJ10 k).2.2.1 = some (tyJ10 k) := by decide +kernel
def RJ7 : String := "java/util/Arrays"
def TJ7 : u_T := fun k => match k with
  | _ => ("", "", "", false)
def tyJ7 : Nat → FieldType := fun k => match k with
  | _ => .int
abbrev wsJ70 : List Cond := u_ws RJ7 TJ7 0
theorem nmJ7 : ∀ a, a < 0 → ∀ b, b < 0 → a ≠ b → (TJ7 a).2.1 ≠ (TJ7 b).2.1 := by decide +kernel
theorem tyJ7_ok : ∀ k, k < 0 → parseFieldDescriptor (TJ7 k).2.2.1 = some (tyJ7 k) := by decide +kernel
abbrev cJ7_fill_53178 : ByteArray := prog_12_method_103_code
def yJ7_fill_53178 : MethodName := ⟨RJ7, "fill", "([II)V"⟩
def RL : String := "NestCellsLaw"
abbrev cL_begin : ByteArray := method_3_code
def yL_begin : MethodName := ⟨RL, "begin", "(LNestCells;[J)I"⟩
abbrev cL_write : ByteArray := method_4_code
def yL_write : MethodName := ⟨RL, "write", "(LNestCells;II[J)I"⟩
abbrev cL_read : ByteArray := method_5_code
def yL_read : MethodName := ⟨RL, "read", "(LNestCells;I[J)I"⟩
abbrev cL_commit : ByteArray := method_6_code
def yL_commit : MethodName := ⟨RL, "commit", "(LNestCells;[J)I"⟩
abbrev cL_abort : ByteArray := method_7_code
def yL_abort : MethodName := ⟨RL, "abort", "(LNestCells;[J)I"⟩
abbrev cL_point : ByteArray := method_8_code
def yL_point : MethodName := ⟨RL, "point", "(LNestCells;I[J)I"⟩
abbrev cL_back : ByteArray := method_9_code
def yL_back : MethodName := ⟨RL, "back", "(LNestCells;I[J)I"⟩
abbrev cL_release : ByteArray := method_10_code
def yL_release : MethodName := ⟨RL, "release", "(LNestCells;I[J)I"⟩
abbrev cL_disk : ByteArray := method_11_code
def yL_disk : MethodName := ⟨RL, "disk", "(LNestCells;I[J)I"⟩
abbrev cL_spoil : ByteArray := method_12_code
def yL_spoil : MethodName := ⟨RL, "spoil", "(LNestCells;II[J)I"⟩
abbrev cL_level : ByteArray := method_13_code
def yL_level : MethodName := ⟨RL, "level", "(LNestCells;II[J)I"⟩
abbrev cL_about : ByteArray := method_14_code
def yL_about : MethodName := ⟨RL, "about", "(LNestCells;I[J)I"⟩
abbrev cL_law : ByteArray := code
def yL_law : MethodName := ⟨RL, "law", "([I)Z"⟩
def wsX0_init : List Cond := .code yX0_init cX0_init 1 none :: ([.methodLink RX0 3 objectInit, .instanceMethod objectInit, .code objectInit ⟨#[0xb1]⟩ 1 none, .arrayClass .int, .fieldLink RX0 9 "NestCells" "words" "[I", .fieldLink RX0 13 "NestCells" "cells" "[I", .fieldLink RX0 16 "NestCells" "levelName" "[I", .fieldLink RX0 19 "NestCells" "traceLevel" "[I", .fieldLink RX0 22 "NestCells" "traceCell" "[I", .fieldLink RX0 25 "NestCells" "traceWas" "[I"] ++ wsX00)
def wsJ7_fill_53178 : List Cond := .code yJ7_fill_53178 cJ7_fill_53178 4 none :: ([])
def wsX0_forgetTransactions : List Cond := .code yX0_forgetTransactions cX0_forgetTransactions 1 none :: ([.fieldLink RX0 51 "NestCells" "transactions" "I", .fieldLink RX0 71 "NestCells" "levels" "I", .fieldLink RX0 82 "NestCells" "traces" "I"] ++ wsX00)
def wsX0_format : List Cond := .code yX0_format cX0_format 1 none :: ([.fieldLink RX0 9 "NestCells" "words" "[I", .fieldLink RX0 13 "NestCells" "cells" "[I", .fieldLink RX0 37 "NestCells" "writesTillCrash" "I", .fieldLink RX0 41 "NestCells" "writesInAll" "I", .fieldLink RX0 44 "NestCells" "off" "Z", .methodLink RX0 28 yJ7_fill_53178, .static yJ7_fill_53178, .initialized RJ7, .code yJ7_fill_53178 cJ7_fill_53178 4 none, .methodLink RX0 34 yX0_forgetTransactions, .instanceMethod yX0_forgetTransactions, .selects RX0 yX0_forgetTransactions yX0_forgetTransactions, .initialized RX0, .code yX0_forgetTransactions cX0_forgetTransactions 1 none, .fieldLink RX0 51 "NestCells" "transactions" "I", .fieldLink RX0 71 "NestCells" "levels" "I", .fieldLink RX0 82 "NestCells" "traces" "I"] ++ wsX00)
def wsX0_needPower : List Cond := .code yX0_needPower cX0_needPower 1 none :: ([.classLink RX0 54 "java/lang/IllegalStateException", .initialized "java/lang/IllegalStateException", .fieldLink RX0 44 "NestCells" "off" "Z"] ++ wsX00 ++ (vx_atS RX0 58 "java/lang/IllegalStateException" ["java/lang/RuntimeException", "java/lang/Exception"]).filter goodWord)
def wsX0_openLevel : List Cond := .code yX0_openLevel cX0_openLevel 2 none :: ([.fieldLink RX0 16 "NestCells" "levelName" "[I", .fieldLink RX0 71 "NestCells" "levels" "I"] ++ wsX00)
def wsX0_begin : List Cond := .code yX0_begin cX0_begin 1 (some .int) :: ([.classLink RX0 54 "java/lang/IllegalStateException", .initialized "java/lang/IllegalStateException", .fieldLink RX0 51 "NestCells" "transactions" "I", .methodLink RX0 48 yX0_needPower, .instanceMethod yX0_needPower, .selects RX0 yX0_needPower yX0_needPower, .initialized RX0, .code yX0_needPower cX0_needPower 1 none, .fieldLink RX0 44 "NestCells" "off" "Z", .methodLink RX0 61 yX0_openLevel, .instanceMethod yX0_openLevel, .selects RX0 yX0_openLevel yX0_openLevel, .code yX0_openLevel cX0_openLevel 2 none, .fieldLink RX0 16 "NestCells" "levelName" "[I", .fieldLink RX0 71 "NestCells" "levels" "I"] ++ wsX00 ++ (vx_atS RX0 58 "java/lang/IllegalStateException" ["java/lang/RuntimeException", "java/lang/Exception"]).filter goodWord)
def wsX0_isCell : List Cond := .code yX0_isCell cX0_isCell 1 (some .boolean) :: ([])
def wsX0_needCell : List Cond := .code yX0_needCell cX0_needCell 2 none :: ([.classLink RX0 131 "java/lang/IllegalArgumentException", .initialized "java/lang/IllegalArgumentException", .methodLink RX0 149 yX0_isCell, .static yX0_isCell, .initialized RX0, .code yX0_isCell cX0_isCell 1 (some .boolean)] ++ (vx_atS RX0 135 "java/lang/IllegalArgumentException" ["java/lang/RuntimeException", "java/lang/Exception"]).filter goodWord)
def wsX0_needTransaction : List Cond := .code yX0_needTransaction cX0_needTransaction 1 none :: ([.classLink RX0 54 "java/lang/IllegalStateException", .initialized "java/lang/IllegalStateException", .fieldLink RX0 51 "NestCells" "transactions" "I", .methodLink RX0 48 yX0_needPower, .instanceMethod yX0_needPower, .selects RX0 yX0_needPower yX0_needPower, .initialized RX0, .code yX0_needPower cX0_needPower 1 none, .fieldLink RX0 44 "NestCells" "off" "Z"] ++ wsX00 ++ (vx_atS RX0 58 "java/lang/IllegalStateException" ["java/lang/RuntimeException", "java/lang/Exception"]).filter goodWord)
def wsX0_tracedCells : List Cond := .code yX0_tracedCells cX0_tracedCells 4 (some .int) :: ([.fieldLink RX0 82 "NestCells" "traces" "I", .fieldLink RX0 19 "NestCells" "traceLevel" "[I", .fieldLink RX0 22 "NestCells" "traceCell" "[I"] ++ wsX00)
def wsX0_holds : List Cond := .code yX0_holds cX0_holds 2 (some .boolean) :: ([])
def wsX0_leaveTrace : List Cond := .code yX0_leaveTrace cX0_leaveTrace 3 none :: ([.fieldLink RX0 19 "NestCells" "traceLevel" "[I", .fieldLink RX0 82 "NestCells" "traces" "I", .fieldLink RX0 22 "NestCells" "traceCell" "[I", .fieldLink RX0 25 "NestCells" "traceWas" "[I", .fieldLink RX0 13 "NestCells" "cells" "[I"] ++ wsX00)
def wsX0_write_r1 : List Cond := [Cond.classLink RX0 54 "java/lang/IllegalStateException", Cond.initialized "java/lang/IllegalStateException", Cond.fieldLink RX0 71 "NestCells" "levels" "I", Cond.fieldLink RX0 82 "NestCells" "traces" "I", Cond.fieldLink RX0 13 "NestCells" "cells" "[I", Cond.methodLink RX0 65 yX0_needCell, Cond.instanceMethod yX0_needCell, Cond.selects RX0 yX0_needCell yX0_needCell, Cond.initialized RX0, Cond.code yX0_needCell cX0_needCell 2 none, Cond.classLink RX0 131 "java/lang/IllegalArgumentException", Cond.initialized "java/lang/IllegalArgumentException", Cond.methodLink RX0 149 yX0_isCell, Cond.static yX0_isCell, Cond.code yX0_isCell cX0_isCell 1 (some .boolean), Cond.methodLink RX0 68 yX0_needTransaction, Cond.instanceMethod yX0_needTransaction, Cond.selects RX0 yX0_needTransaction yX0_needTransaction, Cond.code yX0_needTransaction cX0_needTransaction 1 none, Cond.fieldLink RX0 51 "NestCells" "transactions" "I", Cond.methodLink RX0 48 yX0_needPower, Cond.instanceMethod yX0_needPower, Cond.selects RX0 yX0_needPower yX0_needPower, Cond.code yX0_needPower cX0_needPower 1 none]
def wsX0_write_r2 : List Cond := [Cond.fieldLink RX0 44 "NestCells" "off" "Z", Cond.methodLink RX0 74 yX0_tracedCells, Cond.instanceMethod yX0_tracedCells, Cond.selects RX0 yX0_tracedCells yX0_tracedCells, Cond.code yX0_tracedCells cX0_tracedCells 4 (some .int), Cond.fieldLink RX0 19 "NestCells" "traceLevel" "[I", Cond.fieldLink RX0 22 "NestCells" "traceCell" "[I", Cond.methodLink RX0 78 yX0_holds, Cond.static yX0_holds, Cond.code yX0_holds cX0_holds 2 (some .boolean), Cond.methodLink RX0 87 yX0_leaveTrace, Cond.instanceMethod yX0_leaveTrace, Cond.selects RX0 yX0_leaveTrace yX0_leaveTrace, Cond.code yX0_leaveTrace cX0_leaveTrace 3 none, Cond.fieldLink RX0 25 "NestCells" "traceWas" "[I"]
def wsX0_write : List Cond := .code yX0_write cX0_write 5 (some .int) :: ((wsX0_write_r1 ++ wsX0_write_r2) ++ wsX00 ++ (vx_atS RX0 58 "java/lang/IllegalStateException" ["java/lang/RuntimeException", "java/lang/Exception"]).filter goodWord ++ (vx_atS RX0 135 "java/lang/IllegalArgumentException" ["java/lang/RuntimeException", "java/lang/Exception"]).filter goodWord)
def wsX0_read : List Cond := .code yX0_read cX0_read 2 (some .int) :: ([.fieldLink RX0 13 "NestCells" "cells" "[I", .methodLink RX0 65 yX0_needCell, .instanceMethod yX0_needCell, .selects RX0 yX0_needCell yX0_needCell, .initialized RX0, .code yX0_needCell cX0_needCell 2 none, .classLink RX0 131 "java/lang/IllegalArgumentException", .initialized "java/lang/IllegalArgumentException", .methodLink RX0 149 yX0_isCell, .static yX0_isCell, .code yX0_isCell cX0_isCell 1 (some .boolean), .methodLink RX0 48 yX0_needPower, .instanceMethod yX0_needPower, .selects RX0 yX0_needPower yX0_needPower, .code yX0_needPower cX0_needPower 1 none, .classLink RX0 54 "java/lang/IllegalStateException", .initialized "java/lang/IllegalStateException", .fieldLink RX0 44 "NestCells" "off" "Z"] ++ wsX00 ++ (vx_atS RX0 135 "java/lang/IllegalArgumentException" ["java/lang/RuntimeException", "java/lang/Exception"]).filter goodWord ++ (vx_atS RX0 58 "java/lang/IllegalStateException" ["java/lang/RuntimeException", "java/lang/Exception"]).filter goodWord)
def wsX0_innermostLevel : List Cond := .code yX0_innermostLevel cX0_innermostLevel 2 (some .int) :: ([.fieldLink RX0 71 "NestCells" "levels" "I", .fieldLink RX0 16 "NestCells" "levelName" "[I"] ++ wsX00)
def wsX0_foldLevel : List Cond := .code yX0_foldLevel cX0_foldLevel 5 none :: ([.fieldLink RX0 82 "NestCells" "traces" "I", .fieldLink RX0 19 "NestCells" "traceLevel" "[I", .fieldLink RX0 22 "NestCells" "traceCell" "[I", .fieldLink RX0 25 "NestCells" "traceWas" "[I", .fieldLink RX0 71 "NestCells" "levels" "I", .fieldLink RX0 16 "NestCells" "levelName" "[I", .methodLink RX0 74 yX0_tracedCells, .instanceMethod yX0_tracedCells, .selects RX0 yX0_tracedCells yX0_tracedCells, .initialized RX0, .code yX0_tracedCells cX0_tracedCells 4 (some .int), .methodLink RX0 78 yX0_holds, .static yX0_holds, .code yX0_holds cX0_holds 2 (some .boolean)] ++ wsX00)
def wsJ6_bitCount_0f7a4 : List Cond := .code yJ6_bitCount_0f7a4 cJ6_bitCount_0f7a4 1 (some .int) :: ([.constant RJ6 265 (1431655765), .constant RJ6 266 (858993459), .constant RJ6 267 (252645135)])
def wsX0_putWord : List Cond := .code yX0_putWord cX0_putWord 3 none :: ([.fieldLink RX0 44 "NestCells" "off" "Z", .fieldLink RX0 37 "NestCells" "writesTillCrash" "I", .fieldLink RX0 9 "NestCells" "words" "[I", .fieldLink RX0 41 "NestCells" "writesInAll" "I"] ++ wsX00)
def wsX0_writeEntries : List Cond := .code yX0_writeEntries cX0_writeEntries 4 none :: ([.fieldLink RX0 13 "NestCells" "cells" "[I", .methodLink RX0 78 yX0_holds, .static yX0_holds, .initialized RX0, .code yX0_holds cX0_holds 2 (some .boolean), .methodLink RX0 119 yX0_putWord, .instanceMethod yX0_putWord, .selects RX0 yX0_putWord yX0_putWord, .code yX0_putWord cX0_putWord 3 none, .fieldLink RX0 44 "NestCells" "off" "Z", .fieldLink RX0 37 "NestCells" "writesTillCrash" "I", .fieldLink RX0 9 "NestCells" "words" "[I", .fieldLink RX0 41 "NestCells" "writesInAll" "I"] ++ wsX00)
def wsX0_writeHomes : List Cond := .code yX0_writeHomes cX0_writeHomes 3 none :: ([.fieldLink RX0 13 "NestCells" "cells" "[I", .methodLink RX0 78 yX0_holds, .static yX0_holds, .initialized RX0, .code yX0_holds cX0_holds 2 (some .boolean), .methodLink RX0 119 yX0_putWord, .instanceMethod yX0_putWord, .selects RX0 yX0_putWord yX0_putWord, .code yX0_putWord cX0_putWord 3 none, .fieldLink RX0 44 "NestCells" "off" "Z", .fieldLink RX0 37 "NestCells" "writesTillCrash" "I", .fieldLink RX0 9 "NestCells" "words" "[I", .fieldLink RX0 41 "NestCells" "writesInAll" "I"] ++ wsX00)
def wsX0_keepOnDisk_r1 : List Cond := [Cond.fieldLink RX0 9 "NestCells" "words" "[I", Cond.methodLink RX0 74 yX0_tracedCells, Cond.instanceMethod yX0_tracedCells, Cond.selects RX0 yX0_tracedCells yX0_tracedCells, Cond.initialized RX0, Cond.code yX0_tracedCells cX0_tracedCells 4 (some .int), Cond.fieldLink RX0 82 "NestCells" "traces" "I", Cond.fieldLink RX0 19 "NestCells" "traceLevel" "[I", Cond.fieldLink RX0 22 "NestCells" "traceCell" "[I", Cond.methodLink RX0 136 yJ6_bitCount_0f7a4, Cond.static yJ6_bitCount_0f7a4, Cond.initialized RJ6, Cond.code yJ6_bitCount_0f7a4 cJ6_bitCount_0f7a4 1 (some .int), Cond.constant RJ6 265 (1431655765), Cond.constant RJ6 266 (858993459), Cond.constant RJ6 267 (252645135), Cond.methodLink RX0 161 yX0_writeEntries, Cond.instanceMethod yX0_writeEntries, Cond.selects RX0 yX0_writeEntries yX0_writeEntries, Cond.code yX0_writeEntries cX0_writeEntries 4 none, Cond.fieldLink RX0 13 "NestCells" "cells" "[I", Cond.methodLink RX0 78 yX0_holds, Cond.static yX0_holds, Cond.code yX0_holds cX0_holds 2 (some .boolean)]
def wsX0_keepOnDisk_r2 : List Cond := [Cond.methodLink RX0 119 yX0_putWord, Cond.instanceMethod yX0_putWord, Cond.selects RX0 yX0_putWord yX0_putWord, Cond.code yX0_putWord cX0_putWord 3 none, Cond.fieldLink RX0 44 "NestCells" "off" "Z", Cond.fieldLink RX0 37 "NestCells" "writesTillCrash" "I", Cond.fieldLink RX0 41 "NestCells" "writesInAll" "I", Cond.methodLink RX0 164 yX0_writeHomes, Cond.instanceMethod yX0_writeHomes, Cond.selects RX0 yX0_writeHomes yX0_writeHomes, Cond.code yX0_writeHomes cX0_writeHomes 3 none]
def wsX0_keepOnDisk : List Cond := .code yX0_keepOnDisk cX0_keepOnDisk 3 none :: ((wsX0_keepOnDisk_r1 ++ wsX0_keepOnDisk_r2) ++ wsX00)
def wsX0_commit_r1 : List Cond := [Cond.fieldLink RX0 71 "NestCells" "levels" "I", Cond.fieldLink RX0 51 "NestCells" "transactions" "I", Cond.fieldLink RX0 44 "NestCells" "off" "Z", Cond.methodLink RX0 68 yX0_needTransaction, Cond.instanceMethod yX0_needTransaction, Cond.selects RX0 yX0_needTransaction yX0_needTransaction, Cond.initialized RX0, Cond.code yX0_needTransaction cX0_needTransaction 1 none, Cond.classLink RX0 54 "java/lang/IllegalStateException", Cond.initialized "java/lang/IllegalStateException", Cond.methodLink RX0 48 yX0_needPower, Cond.instanceMethod yX0_needPower, Cond.selects RX0 yX0_needPower yX0_needPower, Cond.code yX0_needPower cX0_needPower 1 none, Cond.methodLink RX0 91 yX0_innermostLevel, Cond.instanceMethod yX0_innermostLevel, Cond.selects RX0 yX0_innermostLevel yX0_innermostLevel, Cond.code yX0_innermostLevel cX0_innermostLevel 2 (some .int), Cond.fieldLink RX0 16 "NestCells" "levelName" "[I", Cond.methodLink RX0 95 yX0_foldLevel, Cond.instanceMethod yX0_foldLevel, Cond.selects RX0 yX0_foldLevel yX0_foldLevel, Cond.code yX0_foldLevel cX0_foldLevel 5 none, Cond.fieldLink RX0 82 "NestCells" "traces" "I"]
def wsX0_commit_r2 : List Cond := [Cond.fieldLink RX0 19 "NestCells" "traceLevel" "[I", Cond.fieldLink RX0 22 "NestCells" "traceCell" "[I", Cond.fieldLink RX0 25 "NestCells" "traceWas" "[I", Cond.methodLink RX0 74 yX0_tracedCells, Cond.instanceMethod yX0_tracedCells, Cond.selects RX0 yX0_tracedCells yX0_tracedCells, Cond.code yX0_tracedCells cX0_tracedCells 4 (some .int), Cond.methodLink RX0 78 yX0_holds, Cond.static yX0_holds, Cond.code yX0_holds cX0_holds 2 (some .boolean), Cond.methodLink RX0 98 yX0_keepOnDisk, Cond.instanceMethod yX0_keepOnDisk, Cond.selects RX0 yX0_keepOnDisk yX0_keepOnDisk, Cond.code yX0_keepOnDisk cX0_keepOnDisk 3 none, Cond.fieldLink RX0 9 "NestCells" "words" "[I", Cond.methodLink RX0 136 yJ6_bitCount_0f7a4, Cond.static yJ6_bitCount_0f7a4, Cond.initialized RJ6, Cond.code yJ6_bitCount_0f7a4 cJ6_bitCount_0f7a4 1 (some .int), Cond.constant RJ6 265 (1431655765), Cond.constant RJ6 266 (858993459), Cond.constant RJ6 267 (252645135), Cond.methodLink RX0 161 yX0_writeEntries, Cond.instanceMethod yX0_writeEntries]
def wsX0_commit_r3 : List Cond := [Cond.selects RX0 yX0_writeEntries yX0_writeEntries, Cond.code yX0_writeEntries cX0_writeEntries 4 none, Cond.fieldLink RX0 13 "NestCells" "cells" "[I", Cond.methodLink RX0 119 yX0_putWord, Cond.instanceMethod yX0_putWord, Cond.selects RX0 yX0_putWord yX0_putWord, Cond.code yX0_putWord cX0_putWord 3 none, Cond.fieldLink RX0 37 "NestCells" "writesTillCrash" "I", Cond.fieldLink RX0 41 "NestCells" "writesInAll" "I", Cond.methodLink RX0 164 yX0_writeHomes, Cond.instanceMethod yX0_writeHomes, Cond.selects RX0 yX0_writeHomes yX0_writeHomes, Cond.code yX0_writeHomes cX0_writeHomes 3 none, Cond.methodLink RX0 34 yX0_forgetTransactions, Cond.instanceMethod yX0_forgetTransactions, Cond.selects RX0 yX0_forgetTransactions yX0_forgetTransactions, Cond.code yX0_forgetTransactions cX0_forgetTransactions 1 none]
def wsX0_commit : List Cond := .code yX0_commit cX0_commit 3 (some .int) :: ((wsX0_commit_r1 ++ (wsX0_commit_r2 ++ wsX0_commit_r3)) ++ wsX00 ++ (vx_atS RX0 58 "java/lang/IllegalStateException" ["java/lang/RuntimeException", "java/lang/Exception"]).filter goodWord)
def wsX0_goBack : List Cond := .code yX0_goBack cX0_goBack 3 (some .int) :: ([.fieldLink RX0 82 "NestCells" "traces" "I", .fieldLink RX0 19 "NestCells" "traceLevel" "[I", .fieldLink RX0 13 "NestCells" "cells" "[I", .fieldLink RX0 22 "NestCells" "traceCell" "[I", .fieldLink RX0 25 "NestCells" "traceWas" "[I", .fieldLink RX0 71 "NestCells" "levels" "I"] ++ wsX00)
def wsX0_abort_r1 : List Cond := [Cond.fieldLink RX0 51 "NestCells" "transactions" "I", Cond.methodLink RX0 68 yX0_needTransaction, Cond.instanceMethod yX0_needTransaction, Cond.selects RX0 yX0_needTransaction yX0_needTransaction, Cond.initialized RX0, Cond.code yX0_needTransaction cX0_needTransaction 1 none, Cond.classLink RX0 54 "java/lang/IllegalStateException", Cond.initialized "java/lang/IllegalStateException", Cond.methodLink RX0 48 yX0_needPower, Cond.instanceMethod yX0_needPower, Cond.selects RX0 yX0_needPower yX0_needPower, Cond.code yX0_needPower cX0_needPower 1 none, Cond.fieldLink RX0 44 "NestCells" "off" "Z", Cond.methodLink RX0 91 yX0_innermostLevel, Cond.instanceMethod yX0_innermostLevel, Cond.selects RX0 yX0_innermostLevel yX0_innermostLevel, Cond.code yX0_innermostLevel cX0_innermostLevel 2 (some .int), Cond.fieldLink RX0 71 "NestCells" "levels" "I", Cond.fieldLink RX0 16 "NestCells" "levelName" "[I", Cond.methodLink RX0 101 yX0_goBack, Cond.instanceMethod yX0_goBack, Cond.selects RX0 yX0_goBack yX0_goBack, Cond.code yX0_goBack cX0_goBack 3 (some .int), Cond.fieldLink RX0 82 "NestCells" "traces" "I"]
def wsX0_abort_r2 : List Cond := [Cond.fieldLink RX0 19 "NestCells" "traceLevel" "[I", Cond.fieldLink RX0 13 "NestCells" "cells" "[I", Cond.fieldLink RX0 22 "NestCells" "traceCell" "[I", Cond.fieldLink RX0 25 "NestCells" "traceWas" "[I"]
def wsX0_abort : List Cond := .code yX0_abort cX0_abort 2 (some .int) :: ((wsX0_abort_r1 ++ wsX0_abort_r2) ++ wsX00 ++ (vx_atS RX0 58 "java/lang/IllegalStateException" ["java/lang/RuntimeException", "java/lang/Exception"]).filter goodWord)
def wsX0_needName : List Cond := .code yX0_needName cX0_needName 2 none :: ([.classLink RX0 131 "java/lang/IllegalArgumentException", .initialized "java/lang/IllegalArgumentException"] ++ (vx_atS RX0 135 "java/lang/IllegalArgumentException" ["java/lang/RuntimeException", "java/lang/Exception"]).filter goodWord)
def wsX0_pointLevel : List Cond := .code yX0_pointLevel cX0_pointLevel 4 (some .int) :: ([.fieldLink RX0 71 "NestCells" "levels" "I", .fieldLink RX0 16 "NestCells" "levelName" "[I", .methodLink RX0 91 yX0_innermostLevel, .instanceMethod yX0_innermostLevel, .selects RX0 yX0_innermostLevel yX0_innermostLevel, .initialized RX0, .code yX0_innermostLevel cX0_innermostLevel 2 (some .int)] ++ wsX00)
def wsX0_points : List Cond := .code yX0_points cX0_points 1 (some .int) :: ([.fieldLink RX0 71 "NestCells" "levels" "I", .methodLink RX0 91 yX0_innermostLevel, .instanceMethod yX0_innermostLevel, .selects RX0 yX0_innermostLevel yX0_innermostLevel, .initialized RX0, .code yX0_innermostLevel cX0_innermostLevel 2 (some .int), .fieldLink RX0 16 "NestCells" "levelName" "[I"] ++ wsX00)
def wsX0_point_r1 : List Cond := [Cond.methodLink RX0 104 yX0_needName, Cond.instanceMethod yX0_needName, Cond.selects RX0 yX0_needName yX0_needName, Cond.initialized RX0, Cond.code yX0_needName cX0_needName 2 none, Cond.classLink RX0 131 "java/lang/IllegalArgumentException", Cond.initialized "java/lang/IllegalArgumentException", Cond.methodLink RX0 68 yX0_needTransaction, Cond.instanceMethod yX0_needTransaction, Cond.selects RX0 yX0_needTransaction yX0_needTransaction, Cond.code yX0_needTransaction cX0_needTransaction 1 none, Cond.classLink RX0 54 "java/lang/IllegalStateException", Cond.initialized "java/lang/IllegalStateException", Cond.fieldLink RX0 51 "NestCells" "transactions" "I", Cond.methodLink RX0 48 yX0_needPower, Cond.instanceMethod yX0_needPower, Cond.selects RX0 yX0_needPower yX0_needPower, Cond.code yX0_needPower cX0_needPower 1 none, Cond.fieldLink RX0 44 "NestCells" "off" "Z", Cond.methodLink RX0 107 yX0_pointLevel, Cond.instanceMethod yX0_pointLevel, Cond.selects RX0 yX0_pointLevel yX0_pointLevel, Cond.code yX0_pointLevel cX0_pointLevel 4 (some .int), Cond.fieldLink RX0 71 "NestCells" "levels" "I"]
def wsX0_point_r2 : List Cond := [Cond.fieldLink RX0 16 "NestCells" "levelName" "[I", Cond.methodLink RX0 91 yX0_innermostLevel, Cond.instanceMethod yX0_innermostLevel, Cond.selects RX0 yX0_innermostLevel yX0_innermostLevel, Cond.code yX0_innermostLevel cX0_innermostLevel 2 (some .int), Cond.methodLink RX0 95 yX0_foldLevel, Cond.instanceMethod yX0_foldLevel, Cond.selects RX0 yX0_foldLevel yX0_foldLevel, Cond.code yX0_foldLevel cX0_foldLevel 5 none, Cond.fieldLink RX0 82 "NestCells" "traces" "I", Cond.fieldLink RX0 19 "NestCells" "traceLevel" "[I", Cond.fieldLink RX0 22 "NestCells" "traceCell" "[I", Cond.fieldLink RX0 25 "NestCells" "traceWas" "[I", Cond.methodLink RX0 74 yX0_tracedCells, Cond.instanceMethod yX0_tracedCells, Cond.selects RX0 yX0_tracedCells yX0_tracedCells, Cond.code yX0_tracedCells cX0_tracedCells 4 (some .int), Cond.methodLink RX0 78 yX0_holds, Cond.static yX0_holds, Cond.code yX0_holds cX0_holds 2 (some .boolean), Cond.methodLink RX0 61 yX0_openLevel, Cond.instanceMethod yX0_openLevel, Cond.selects RX0 yX0_openLevel yX0_openLevel, Cond.code yX0_openLevel cX0_openLevel 2 none]
def wsX0_point_r3 : List Cond := [Cond.methodLink RX0 110 yX0_points, Cond.instanceMethod yX0_points, Cond.selects RX0 yX0_points yX0_points, Cond.code yX0_points cX0_points 1 (some .int)]
def wsX0_point : List Cond := .code yX0_point cX0_point 3 (some .int) :: ((wsX0_point_r1 ++ (wsX0_point_r2 ++ wsX0_point_r3)) ++ wsX00 ++ (vx_atS RX0 135 "java/lang/IllegalArgumentException" ["java/lang/RuntimeException", "java/lang/Exception"]).filter goodWord ++ (vx_atS RX0 58 "java/lang/IllegalStateException" ["java/lang/RuntimeException", "java/lang/Exception"]).filter goodWord)
def wsX0_needPoint : List Cond := .code yX0_needPoint cX0_needPoint 3 (some .int) :: ([.classLink RX0 131 "java/lang/IllegalArgumentException", .initialized "java/lang/IllegalArgumentException", .methodLink RX0 107 yX0_pointLevel, .instanceMethod yX0_pointLevel, .selects RX0 yX0_pointLevel yX0_pointLevel, .initialized RX0, .code yX0_pointLevel cX0_pointLevel 4 (some .int), .fieldLink RX0 71 "NestCells" "levels" "I", .fieldLink RX0 16 "NestCells" "levelName" "[I", .methodLink RX0 91 yX0_innermostLevel, .instanceMethod yX0_innermostLevel, .selects RX0 yX0_innermostLevel yX0_innermostLevel, .code yX0_innermostLevel cX0_innermostLevel 2 (some .int)] ++ wsX00 ++ (vx_atS RX0 135 "java/lang/IllegalArgumentException" ["java/lang/RuntimeException", "java/lang/Exception"]).filter goodWord)
def wsX0_back_r1 : List Cond := [Cond.methodLink RX0 104 yX0_needName, Cond.instanceMethod yX0_needName, Cond.selects RX0 yX0_needName yX0_needName, Cond.initialized RX0, Cond.code yX0_needName cX0_needName 2 none, Cond.classLink RX0 131 "java/lang/IllegalArgumentException", Cond.initialized "java/lang/IllegalArgumentException", Cond.methodLink RX0 68 yX0_needTransaction, Cond.instanceMethod yX0_needTransaction, Cond.selects RX0 yX0_needTransaction yX0_needTransaction, Cond.code yX0_needTransaction cX0_needTransaction 1 none, Cond.classLink RX0 54 "java/lang/IllegalStateException", Cond.initialized "java/lang/IllegalStateException", Cond.fieldLink RX0 51 "NestCells" "transactions" "I", Cond.methodLink RX0 48 yX0_needPower, Cond.instanceMethod yX0_needPower, Cond.selects RX0 yX0_needPower yX0_needPower, Cond.code yX0_needPower cX0_needPower 1 none, Cond.fieldLink RX0 44 "NestCells" "off" "Z", Cond.methodLink RX0 113 yX0_needPoint, Cond.instanceMethod yX0_needPoint, Cond.selects RX0 yX0_needPoint yX0_needPoint, Cond.code yX0_needPoint cX0_needPoint 3 (some .int), Cond.methodLink RX0 107 yX0_pointLevel]
def wsX0_back_r2 : List Cond := [Cond.instanceMethod yX0_pointLevel, Cond.selects RX0 yX0_pointLevel yX0_pointLevel, Cond.code yX0_pointLevel cX0_pointLevel 4 (some .int), Cond.fieldLink RX0 71 "NestCells" "levels" "I", Cond.fieldLink RX0 16 "NestCells" "levelName" "[I", Cond.methodLink RX0 91 yX0_innermostLevel, Cond.instanceMethod yX0_innermostLevel, Cond.selects RX0 yX0_innermostLevel yX0_innermostLevel, Cond.code yX0_innermostLevel cX0_innermostLevel 2 (some .int), Cond.methodLink RX0 101 yX0_goBack, Cond.instanceMethod yX0_goBack, Cond.selects RX0 yX0_goBack yX0_goBack, Cond.code yX0_goBack cX0_goBack 3 (some .int), Cond.fieldLink RX0 82 "NestCells" "traces" "I", Cond.fieldLink RX0 19 "NestCells" "traceLevel" "[I", Cond.fieldLink RX0 13 "NestCells" "cells" "[I", Cond.fieldLink RX0 22 "NestCells" "traceCell" "[I", Cond.fieldLink RX0 25 "NestCells" "traceWas" "[I", Cond.methodLink RX0 61 yX0_openLevel, Cond.instanceMethod yX0_openLevel, Cond.selects RX0 yX0_openLevel yX0_openLevel, Cond.code yX0_openLevel cX0_openLevel 2 none]
def wsX0_back : List Cond := .code yX0_back cX0_back 3 (some .int) :: ((wsX0_back_r1 ++ wsX0_back_r2) ++ wsX00 ++ (vx_atS RX0 135 "java/lang/IllegalArgumentException" ["java/lang/RuntimeException", "java/lang/Exception"]).filter goodWord ++ (vx_atS RX0 58 "java/lang/IllegalStateException" ["java/lang/RuntimeException", "java/lang/Exception"]).filter goodWord)
def wsX0_release_r1 : List Cond := [Cond.methodLink RX0 104 yX0_needName, Cond.instanceMethod yX0_needName, Cond.selects RX0 yX0_needName yX0_needName, Cond.initialized RX0, Cond.code yX0_needName cX0_needName 2 none, Cond.classLink RX0 131 "java/lang/IllegalArgumentException", Cond.initialized "java/lang/IllegalArgumentException", Cond.methodLink RX0 68 yX0_needTransaction, Cond.instanceMethod yX0_needTransaction, Cond.selects RX0 yX0_needTransaction yX0_needTransaction, Cond.code yX0_needTransaction cX0_needTransaction 1 none, Cond.classLink RX0 54 "java/lang/IllegalStateException", Cond.initialized "java/lang/IllegalStateException", Cond.fieldLink RX0 51 "NestCells" "transactions" "I", Cond.methodLink RX0 48 yX0_needPower, Cond.instanceMethod yX0_needPower, Cond.selects RX0 yX0_needPower yX0_needPower, Cond.code yX0_needPower cX0_needPower 1 none, Cond.fieldLink RX0 44 "NestCells" "off" "Z", Cond.methodLink RX0 113 yX0_needPoint, Cond.instanceMethod yX0_needPoint, Cond.selects RX0 yX0_needPoint yX0_needPoint, Cond.code yX0_needPoint cX0_needPoint 3 (some .int), Cond.methodLink RX0 107 yX0_pointLevel]
def wsX0_release_r2 : List Cond := [Cond.instanceMethod yX0_pointLevel, Cond.selects RX0 yX0_pointLevel yX0_pointLevel, Cond.code yX0_pointLevel cX0_pointLevel 4 (some .int), Cond.fieldLink RX0 71 "NestCells" "levels" "I", Cond.fieldLink RX0 16 "NestCells" "levelName" "[I", Cond.methodLink RX0 91 yX0_innermostLevel, Cond.instanceMethod yX0_innermostLevel, Cond.selects RX0 yX0_innermostLevel yX0_innermostLevel, Cond.code yX0_innermostLevel cX0_innermostLevel 2 (some .int), Cond.methodLink RX0 95 yX0_foldLevel, Cond.instanceMethod yX0_foldLevel, Cond.selects RX0 yX0_foldLevel yX0_foldLevel, Cond.code yX0_foldLevel cX0_foldLevel 5 none, Cond.fieldLink RX0 82 "NestCells" "traces" "I", Cond.fieldLink RX0 19 "NestCells" "traceLevel" "[I", Cond.fieldLink RX0 22 "NestCells" "traceCell" "[I", Cond.fieldLink RX0 25 "NestCells" "traceWas" "[I", Cond.methodLink RX0 74 yX0_tracedCells, Cond.instanceMethod yX0_tracedCells, Cond.selects RX0 yX0_tracedCells yX0_tracedCells, Cond.code yX0_tracedCells cX0_tracedCells 4 (some .int), Cond.methodLink RX0 78 yX0_holds, Cond.static yX0_holds, Cond.code yX0_holds cX0_holds 2 (some .boolean)]
def wsX0_release_r3 : List Cond := [Cond.methodLink RX0 110 yX0_points, Cond.instanceMethod yX0_points, Cond.selects RX0 yX0_points yX0_points, Cond.code yX0_points cX0_points 1 (some .int)]
def wsX0_release : List Cond := .code yX0_release cX0_release 2 (some .int) :: ((wsX0_release_r1 ++ (wsX0_release_r2 ++ wsX0_release_r3)) ++ wsX00 ++ (vx_atS RX0 135 "java/lang/IllegalArgumentException" ["java/lang/RuntimeException", "java/lang/Exception"]).filter goodWord ++ (vx_atS RX0 58 "java/lang/IllegalStateException" ["java/lang/RuntimeException", "java/lang/Exception"]).filter goodWord)
def wsX0_crash : List Cond := .code yX0_crash cX0_crash 2 none :: ([.fieldLink RX0 37 "NestCells" "writesTillCrash" "I"] ++ wsX00)
def wsX0_writeHomesFromEntries : List Cond := .code yX0_writeHomesFromEntries cX0_writeHomesFromEntries 5 (some .int) :: ([.fieldLink RX0 9 "NestCells" "words" "[I", .methodLink RX0 149 yX0_isCell, .static yX0_isCell, .initialized RX0, .code yX0_isCell cX0_isCell 1 (some .boolean), .methodLink RX0 119 yX0_putWord, .instanceMethod yX0_putWord, .selects RX0 yX0_putWord yX0_putWord, .code yX0_putWord cX0_putWord 3 none, .fieldLink RX0 44 "NestCells" "off" "Z", .fieldLink RX0 37 "NestCells" "writesTillCrash" "I", .fieldLink RX0 41 "NestCells" "writesInAll" "I"] ++ wsX00)
def wsX0_recover_r1 : List Cond := [Cond.fieldLink RX0 37 "NestCells" "writesTillCrash" "I", Cond.fieldLink RX0 44 "NestCells" "off" "Z", Cond.fieldLink RX0 9 "NestCells" "words" "[I", Cond.fieldLink RX0 13 "NestCells" "cells" "[I", Cond.methodLink RX0 122 arraycopyName, Cond.native arraycopyName, Cond.static arraycopyName, Cond.initialized "java/lang/System", Cond.methodLink RX0 34 yX0_forgetTransactions, Cond.instanceMethod yX0_forgetTransactions, Cond.selects RX0 yX0_forgetTransactions yX0_forgetTransactions, Cond.initialized RX0, Cond.code yX0_forgetTransactions cX0_forgetTransactions 1 none, Cond.fieldLink RX0 51 "NestCells" "transactions" "I", Cond.fieldLink RX0 71 "NestCells" "levels" "I", Cond.fieldLink RX0 82 "NestCells" "traces" "I", Cond.methodLink RX0 116 yX0_writeHomesFromEntries, Cond.instanceMethod yX0_writeHomesFromEntries, Cond.selects RX0 yX0_writeHomesFromEntries yX0_writeHomesFromEntries, Cond.code yX0_writeHomesFromEntries cX0_writeHomesFromEntries 5 (some .int), Cond.methodLink RX0 149 yX0_isCell, Cond.static yX0_isCell, Cond.code yX0_isCell cX0_isCell 1 (some .boolean), Cond.methodLink RX0 119 yX0_putWord]
def wsX0_recover_r2 : List Cond := [Cond.instanceMethod yX0_putWord, Cond.selects RX0 yX0_putWord yX0_putWord, Cond.code yX0_putWord cX0_putWord 3 none, Cond.fieldLink RX0 41 "NestCells" "writesInAll" "I"]
def wsX0_recover : List Cond := .code yX0_recover cX0_recover 2 (some .int) :: ((wsX0_recover_r1 ++ wsX0_recover_r2) ++ wsX00)
def wsX0_needWord : List Cond := .code yX0_needWord cX0_needWord 2 none :: ([.classLink RX0 131 "java/lang/IllegalArgumentException", .initialized "java/lang/IllegalArgumentException"] ++ (vx_atS RX0 135 "java/lang/IllegalArgumentException" ["java/lang/RuntimeException", "java/lang/Exception"]).filter goodWord)
def wsX0_disk : List Cond := .code yX0_disk cX0_disk 2 (some .int) :: ([.fieldLink RX0 9 "NestCells" "words" "[I", .methodLink RX0 128 yX0_needWord, .instanceMethod yX0_needWord, .selects RX0 yX0_needWord yX0_needWord, .initialized RX0, .code yX0_needWord cX0_needWord 2 none, .classLink RX0 131 "java/lang/IllegalArgumentException", .initialized "java/lang/IllegalArgumentException"] ++ wsX00 ++ (vx_atS RX0 135 "java/lang/IllegalArgumentException" ["java/lang/RuntimeException", "java/lang/Exception"]).filter goodWord)
def wsX0_spoil : List Cond := .code yX0_spoil cX0_spoil 4 (some .int) :: ([.fieldLink RX0 9 "NestCells" "words" "[I", .methodLink RX0 128 yX0_needWord, .instanceMethod yX0_needWord, .selects RX0 yX0_needWord yX0_needWord, .initialized RX0, .code yX0_needWord cX0_needWord 2 none, .classLink RX0 131 "java/lang/IllegalArgumentException", .initialized "java/lang/IllegalArgumentException"] ++ wsX00 ++ (vx_atS RX0 135 "java/lang/IllegalArgumentException" ["java/lang/RuntimeException", "java/lang/Exception"]).filter goodWord)
def wsX0_level : List Cond := .code yX0_level cX0_level 3 (some .int) :: ([.classLink RX0 131 "java/lang/IllegalArgumentException", .initialized "java/lang/IllegalArgumentException", .fieldLink RX0 71 "NestCells" "levels" "I", .fieldLink RX0 16 "NestCells" "levelName" "[I", .methodLink RX0 74 yX0_tracedCells, .instanceMethod yX0_tracedCells, .selects RX0 yX0_tracedCells yX0_tracedCells, .initialized RX0, .code yX0_tracedCells cX0_tracedCells 4 (some .int), .fieldLink RX0 82 "NestCells" "traces" "I", .fieldLink RX0 19 "NestCells" "traceLevel" "[I", .fieldLink RX0 22 "NestCells" "traceCell" "[I", .methodLink RX0 136 yJ6_bitCount_0f7a4, .static yJ6_bitCount_0f7a4, .initialized RJ6, .code yJ6_bitCount_0f7a4 cJ6_bitCount_0f7a4 1 (some .int), .constant RJ6 265 (1431655765), .constant RJ6 266 (858993459), .constant RJ6 267 (252645135)] ++ wsX00 ++ (vx_atS RX0 135 "java/lang/IllegalArgumentException" ["java/lang/RuntimeException", "java/lang/Exception"]).filter goodWord)
def wsX0_about : List Cond := .code yX0_about cX0_about 2 (some .int) :: ([.classLink RX0 131 "java/lang/IllegalArgumentException", .initialized "java/lang/IllegalArgumentException", .fieldLink RX0 51 "NestCells" "transactions" "I", .fieldLink RX0 71 "NestCells" "levels" "I", .fieldLink RX0 82 "NestCells" "traces" "I", .fieldLink RX0 37 "NestCells" "writesTillCrash" "I", .fieldLink RX0 41 "NestCells" "writesInAll" "I", .fieldLink RX0 44 "NestCells" "off" "Z", .methodLink RX0 110 yX0_points, .instanceMethod yX0_points, .selects RX0 yX0_points yX0_points, .initialized RX0, .code yX0_points cX0_points 1 (some .int), .methodLink RX0 91 yX0_innermostLevel, .instanceMethod yX0_innermostLevel, .selects RX0 yX0_innermostLevel yX0_innermostLevel, .code yX0_innermostLevel cX0_innermostLevel 2 (some .int), .fieldLink RX0 16 "NestCells" "levelName" "[I"] ++ wsX00 ++ (vx_atS RX0 135 "java/lang/IllegalArgumentException" ["java/lang/RuntimeException", "java/lang/Exception"]).filter goodWord)
def wsX1_init : List Cond := .code yX1_init cX1_init 1 none :: ([.methodLink RX1 1 objectInit, .instanceMethod objectInit, .code objectInit ⟨#[0xb1]⟩ 1 none, .arrayClass .int, .fieldLink RX1 7 "NestCellsModel" "cells" "[I", .fieldLink RX1 13 "NestCellsModel" "disk" "[I", .fieldLink RX1 16 "NestCellsModel" "were" "[I", .fieldLink RX1 19 "NestCellsModel" "written" "[I", .fieldLink RX1 22 "NestCellsModel" "names" "[I"] ++ wsX10)
def wsX1_thrown : List Cond := .code yX1_thrown cX1_thrown 1 (some .int) :: ([.fieldLink RX1 25 "NestCellsModel" "code" "I"] ++ wsX10)
def wsX1_refuses : List Cond := .code yX1_refuses cX1_refuses 2 (some .boolean) :: ([.fieldLink RX1 25 "NestCellsModel" "code" "I"] ++ wsX10)
def wsX1_bits : List Cond := .code yX1_bits cX1_bits 3 (some .int) :: ([])
def wsX1_traces : List Cond := .code yX1_traces cX1_traces 3 (some .int) :: ([.fieldLink RX1 29 "NestCellsModel" "levels" "I", .fieldLink RX1 19 "NestCellsModel" "written" "[I", .methodLink RX1 32 yX1_bits, .static yX1_bits, .initialized RX1, .code yX1_bits cX1_bits 3 (some .int)] ++ wsX10)
def wsX1_isCell : List Cond := .code yX1_isCell cX1_isCell 1 (some .boolean) :: ([])
def wsX1_opens : List Cond := .code yX1_opens cX1_opens 3 none :: ([.fieldLink RX1 16 "NestCellsModel" "were" "[I", .fieldLink RX1 29 "NestCellsModel" "levels" "I", .fieldLink RX1 7 "NestCellsModel" "cells" "[I", .fieldLink RX1 19 "NestCellsModel" "written" "[I", .fieldLink RX1 22 "NestCellsModel" "names" "[I"] ++ wsX10)
def wsX1_first : List Cond := .code yX1_first cX1_first 2 (some .int) :: ([.fieldLink RX1 29 "NestCellsModel" "levels" "I", .fieldLink RX1 22 "NestCellsModel" "names" "[I"] ++ wsX10)
def wsX1_find : List Cond := .code yX1_find cX1_find 3 (some .int) :: ([.fieldLink RX1 29 "NestCellsModel" "levels" "I", .fieldLink RX1 22 "NestCellsModel" "names" "[I"] ++ wsX10)
def wsX1_melts : List Cond := .code yX1_melts cX1_melts 4 none :: ([.fieldLink RX1 19 "NestCellsModel" "written" "[I", .fieldLink RX1 29 "NestCellsModel" "levels" "I", .fieldLink RX1 22 "NestCellsModel" "names" "[I", .fieldLink RX1 16 "NestCellsModel" "were" "[I"] ++ wsX10)
def wsX1_returns : List Cond := .code yX1_returns cX1_returns 4 (some .int) :: ([.fieldLink RX1 29 "NestCellsModel" "levels" "I", .fieldLink RX1 19 "NestCellsModel" "written" "[I", .fieldLink RX1 7 "NestCellsModel" "cells" "[I", .fieldLink RX1 16 "NestCellsModel" "were" "[I", .methodLink RX1 32 yX1_bits, .static yX1_bits, .initialized RX1, .code yX1_bits cX1_bits 3 (some .int)] ++ wsX10)
def wsX1_format : List Cond := .code yX1_format cX1_format 2 none :: ([.fieldLink RX1 25 "NestCellsModel" "code" "I", .fieldLink RX1 7 "NestCellsModel" "cells" "[I", .fieldLink RX1 13 "NestCellsModel" "disk" "[I", .fieldLink RX1 29 "NestCellsModel" "levels" "I", .fieldLink RX1 36 "NestCellsModel" "transactions" "I", .fieldLink RX1 39 "NestCellsModel" "off" "Z", .fieldLink RX1 43 "NestCellsModel" "told" "I", .fieldLink RX1 46 "NestCellsModel" "writes" "I"] ++ wsX10)
def wsX1_begin : List Cond := .code yX1_begin cX1_begin 1 (some .int) :: ([.fieldLink RX1 39 "NestCellsModel" "off" "Z", .fieldLink RX1 36 "NestCellsModel" "transactions" "I", .methodLink RX1 49 yX1_refuses, .instanceMethod yX1_refuses, .selects RX1 yX1_refuses yX1_refuses, .initialized RX1, .code yX1_refuses cX1_refuses 2 (some .boolean), .fieldLink RX1 25 "NestCellsModel" "code" "I", .methodLink RX1 53 yX1_opens, .instanceMethod yX1_opens, .selects RX1 yX1_opens yX1_opens, .code yX1_opens cX1_opens 3 none, .fieldLink RX1 16 "NestCellsModel" "were" "[I", .fieldLink RX1 29 "NestCellsModel" "levels" "I", .fieldLink RX1 7 "NestCellsModel" "cells" "[I", .fieldLink RX1 19 "NestCellsModel" "written" "[I", .fieldLink RX1 22 "NestCellsModel" "names" "[I"] ++ wsX10)
def wsX1_write : List Cond := .code yX1_write cX1_write 6 (some .int) :: ([.fieldLink RX1 39 "NestCellsModel" "off" "Z", .fieldLink RX1 36 "NestCellsModel" "transactions" "I", .fieldLink RX1 29 "NestCellsModel" "levels" "I", .fieldLink RX1 19 "NestCellsModel" "written" "[I", .fieldLink RX1 7 "NestCellsModel" "cells" "[I", .methodLink RX1 57 yX1_isCell, .static yX1_isCell, .initialized RX1, .code yX1_isCell cX1_isCell 1 (some .boolean), .methodLink RX1 49 yX1_refuses, .instanceMethod yX1_refuses, .selects RX1 yX1_refuses yX1_refuses, .code yX1_refuses cX1_refuses 2 (some .boolean), .fieldLink RX1 25 "NestCellsModel" "code" "I", .methodLink RX1 60 yX1_traces, .instanceMethod yX1_traces, .selects RX1 yX1_traces yX1_traces, .code yX1_traces cX1_traces 3 (some .int), .methodLink RX1 32 yX1_bits, .static yX1_bits, .code yX1_bits cX1_bits 3 (some .int)] ++ wsX10)
def wsX1_read : List Cond := .code yX1_read cX1_read 2 (some .int) :: ([.fieldLink RX1 39 "NestCellsModel" "off" "Z", .fieldLink RX1 7 "NestCellsModel" "cells" "[I", .methodLink RX1 57 yX1_isCell, .static yX1_isCell, .initialized RX1, .code yX1_isCell cX1_isCell 1 (some .boolean), .methodLink RX1 49 yX1_refuses, .instanceMethod yX1_refuses, .selects RX1 yX1_refuses yX1_refuses, .code yX1_refuses cX1_refuses 2 (some .boolean), .fieldLink RX1 25 "NestCellsModel" "code" "I"] ++ wsX10)
def wsX1_puts : List Cond := .code yX1_puts cX1_puts 3 (some .boolean) :: ([.fieldLink RX1 43 "NestCellsModel" "told" "I", .fieldLink RX1 39 "NestCellsModel" "off" "Z", .fieldLink RX1 29 "NestCellsModel" "levels" "I", .fieldLink RX1 36 "NestCellsModel" "transactions" "I", .fieldLink RX1 13 "NestCellsModel" "disk" "[I", .fieldLink RX1 46 "NestCellsModel" "writes" "I"] ++ wsX10)
def wsX1_stores : List Cond := .code yX1_stores cX1_stores 4 (some .boolean) :: ([.fieldLink RX1 7 "NestCellsModel" "cells" "[I", .fieldLink RX1 13 "NestCellsModel" "disk" "[I", .methodLink RX1 64 yX1_puts, .instanceMethod yX1_puts, .selects RX1 yX1_puts yX1_puts, .initialized RX1, .code yX1_puts cX1_puts 3 (some .boolean), .fieldLink RX1 43 "NestCellsModel" "told" "I", .fieldLink RX1 39 "NestCellsModel" "off" "Z", .fieldLink RX1 29 "NestCellsModel" "levels" "I", .fieldLink RX1 36 "NestCellsModel" "transactions" "I", .fieldLink RX1 46 "NestCellsModel" "writes" "I"] ++ wsX10)
def wsX1_commit_r1 : List Cond := [Cond.fieldLink RX1 39 "NestCellsModel" "off" "Z", Cond.fieldLink RX1 36 "NestCellsModel" "transactions" "I", Cond.fieldLink RX1 29 "NestCellsModel" "levels" "I", Cond.fieldLink RX1 19 "NestCellsModel" "written" "[I", Cond.methodLink RX1 49 yX1_refuses, Cond.instanceMethod yX1_refuses, Cond.selects RX1 yX1_refuses yX1_refuses, Cond.initialized RX1, Cond.code yX1_refuses cX1_refuses 2 (some .boolean), Cond.fieldLink RX1 25 "NestCellsModel" "code" "I", Cond.methodLink RX1 68 yX1_first, Cond.instanceMethod yX1_first, Cond.selects RX1 yX1_first yX1_first, Cond.code yX1_first cX1_first 2 (some .int), Cond.fieldLink RX1 22 "NestCellsModel" "names" "[I", Cond.methodLink RX1 71 yX1_melts, Cond.instanceMethod yX1_melts, Cond.selects RX1 yX1_melts yX1_melts, Cond.code yX1_melts cX1_melts 4 none, Cond.fieldLink RX1 16 "NestCellsModel" "were" "[I", Cond.methodLink RX1 74 yX1_stores, Cond.instanceMethod yX1_stores, Cond.selects RX1 yX1_stores yX1_stores, Cond.code yX1_stores cX1_stores 4 (some .boolean)]
def wsX1_commit_r2 : List Cond := [Cond.fieldLink RX1 7 "NestCellsModel" "cells" "[I", Cond.fieldLink RX1 13 "NestCellsModel" "disk" "[I", Cond.methodLink RX1 64 yX1_puts, Cond.instanceMethod yX1_puts, Cond.selects RX1 yX1_puts yX1_puts, Cond.code yX1_puts cX1_puts 3 (some .boolean), Cond.fieldLink RX1 43 "NestCellsModel" "told" "I", Cond.fieldLink RX1 46 "NestCellsModel" "writes" "I"]
def wsX1_commit : List Cond := .code yX1_commit cX1_commit 2 (some .int) :: ((wsX1_commit_r1 ++ wsX1_commit_r2) ++ wsX10)
def wsX1_abort : List Cond := .code yX1_abort cX1_abort 3 (some .int) :: ([.fieldLink RX1 39 "NestCellsModel" "off" "Z", .fieldLink RX1 36 "NestCellsModel" "transactions" "I", .fieldLink RX1 29 "NestCellsModel" "levels" "I", .methodLink RX1 49 yX1_refuses, .instanceMethod yX1_refuses, .selects RX1 yX1_refuses yX1_refuses, .initialized RX1, .code yX1_refuses cX1_refuses 2 (some .boolean), .fieldLink RX1 25 "NestCellsModel" "code" "I", .methodLink RX1 68 yX1_first, .instanceMethod yX1_first, .selects RX1 yX1_first yX1_first, .code yX1_first cX1_first 2 (some .int), .fieldLink RX1 22 "NestCellsModel" "names" "[I", .methodLink RX1 77 yX1_returns, .instanceMethod yX1_returns, .selects RX1 yX1_returns yX1_returns, .code yX1_returns cX1_returns 4 (some .int), .fieldLink RX1 19 "NestCellsModel" "written" "[I", .fieldLink RX1 7 "NestCellsModel" "cells" "[I", .fieldLink RX1 16 "NestCellsModel" "were" "[I", .methodLink RX1 32 yX1_bits, .static yX1_bits, .code yX1_bits cX1_bits 3 (some .int)] ++ wsX10)
def wsX1_points : List Cond := .code yX1_points cX1_points 1 (some .int) :: ([.fieldLink RX1 36 "NestCellsModel" "transactions" "I", .fieldLink RX1 29 "NestCellsModel" "levels" "I", .methodLink RX1 68 yX1_first, .instanceMethod yX1_first, .selects RX1 yX1_first yX1_first, .initialized RX1, .code yX1_first cX1_first 2 (some .int), .fieldLink RX1 22 "NestCellsModel" "names" "[I"] ++ wsX10)
def wsX1_point_r1 : List Cond := [Cond.fieldLink RX1 39 "NestCellsModel" "off" "Z", Cond.fieldLink RX1 36 "NestCellsModel" "transactions" "I", Cond.methodLink RX1 49 yX1_refuses, Cond.instanceMethod yX1_refuses, Cond.selects RX1 yX1_refuses yX1_refuses, Cond.initialized RX1, Cond.code yX1_refuses cX1_refuses 2 (some .boolean), Cond.fieldLink RX1 25 "NestCellsModel" "code" "I", Cond.methodLink RX1 80 yX1_find, Cond.instanceMethod yX1_find, Cond.selects RX1 yX1_find yX1_find, Cond.code yX1_find cX1_find 3 (some .int), Cond.fieldLink RX1 29 "NestCellsModel" "levels" "I", Cond.fieldLink RX1 22 "NestCellsModel" "names" "[I", Cond.methodLink RX1 71 yX1_melts, Cond.instanceMethod yX1_melts, Cond.selects RX1 yX1_melts yX1_melts, Cond.code yX1_melts cX1_melts 4 none, Cond.fieldLink RX1 19 "NestCellsModel" "written" "[I", Cond.fieldLink RX1 16 "NestCellsModel" "were" "[I", Cond.methodLink RX1 53 yX1_opens, Cond.instanceMethod yX1_opens, Cond.selects RX1 yX1_opens yX1_opens, Cond.code yX1_opens cX1_opens 3 none]
def wsX1_point_r2 : List Cond := [Cond.fieldLink RX1 7 "NestCellsModel" "cells" "[I", Cond.methodLink RX1 83 yX1_points, Cond.instanceMethod yX1_points, Cond.selects RX1 yX1_points yX1_points, Cond.code yX1_points cX1_points 1 (some .int), Cond.methodLink RX1 68 yX1_first, Cond.instanceMethod yX1_first, Cond.selects RX1 yX1_first yX1_first, Cond.code yX1_first cX1_first 2 (some .int)]
def wsX1_point : List Cond := .code yX1_point cX1_point 3 (some .int) :: ((wsX1_point_r1 ++ wsX1_point_r2) ++ wsX10)
def wsX1_wrong : List Cond := .code yX1_wrong cX1_wrong 2 (some .int) :: ([.fieldLink RX1 39 "NestCellsModel" "off" "Z", .fieldLink RX1 36 "NestCellsModel" "transactions" "I", .methodLink RX1 80 yX1_find, .instanceMethod yX1_find, .selects RX1 yX1_find yX1_find, .initialized RX1, .code yX1_find cX1_find 3 (some .int), .fieldLink RX1 29 "NestCellsModel" "levels" "I", .fieldLink RX1 22 "NestCellsModel" "names" "[I"] ++ wsX10)
def wsX1_back_r1 : List Cond := [Cond.fieldLink RX1 29 "NestCellsModel" "levels" "I", Cond.fieldLink RX1 19 "NestCellsModel" "written" "[I", Cond.methodLink RX1 86 yX1_wrong, Cond.instanceMethod yX1_wrong, Cond.selects RX1 yX1_wrong yX1_wrong, Cond.initialized RX1, Cond.code yX1_wrong cX1_wrong 2 (some .int), Cond.fieldLink RX1 39 "NestCellsModel" "off" "Z", Cond.fieldLink RX1 36 "NestCellsModel" "transactions" "I", Cond.methodLink RX1 80 yX1_find, Cond.instanceMethod yX1_find, Cond.selects RX1 yX1_find yX1_find, Cond.code yX1_find cX1_find 3 (some .int), Cond.fieldLink RX1 22 "NestCellsModel" "names" "[I", Cond.methodLink RX1 49 yX1_refuses, Cond.instanceMethod yX1_refuses, Cond.selects RX1 yX1_refuses yX1_refuses, Cond.code yX1_refuses cX1_refuses 2 (some .boolean), Cond.fieldLink RX1 25 "NestCellsModel" "code" "I", Cond.methodLink RX1 77 yX1_returns, Cond.instanceMethod yX1_returns, Cond.selects RX1 yX1_returns yX1_returns, Cond.code yX1_returns cX1_returns 4 (some .int), Cond.fieldLink RX1 7 "NestCellsModel" "cells" "[I"]
def wsX1_back_r2 : List Cond := [Cond.fieldLink RX1 16 "NestCellsModel" "were" "[I", Cond.methodLink RX1 32 yX1_bits, Cond.static yX1_bits, Cond.code yX1_bits cX1_bits 3 (some .int)]
def wsX1_back : List Cond := .code yX1_back cX1_back 4 (some .int) :: ((wsX1_back_r1 ++ wsX1_back_r2) ++ wsX10)
def wsX1_release_r1 : List Cond := [Cond.methodLink RX1 86 yX1_wrong, Cond.instanceMethod yX1_wrong, Cond.selects RX1 yX1_wrong yX1_wrong, Cond.initialized RX1, Cond.code yX1_wrong cX1_wrong 2 (some .int), Cond.fieldLink RX1 39 "NestCellsModel" "off" "Z", Cond.fieldLink RX1 36 "NestCellsModel" "transactions" "I", Cond.methodLink RX1 80 yX1_find, Cond.instanceMethod yX1_find, Cond.selects RX1 yX1_find yX1_find, Cond.code yX1_find cX1_find 3 (some .int), Cond.fieldLink RX1 29 "NestCellsModel" "levels" "I", Cond.fieldLink RX1 22 "NestCellsModel" "names" "[I", Cond.methodLink RX1 49 yX1_refuses, Cond.instanceMethod yX1_refuses, Cond.selects RX1 yX1_refuses yX1_refuses, Cond.code yX1_refuses cX1_refuses 2 (some .boolean), Cond.fieldLink RX1 25 "NestCellsModel" "code" "I", Cond.methodLink RX1 71 yX1_melts, Cond.instanceMethod yX1_melts, Cond.selects RX1 yX1_melts yX1_melts, Cond.code yX1_melts cX1_melts 4 none, Cond.fieldLink RX1 19 "NestCellsModel" "written" "[I", Cond.fieldLink RX1 16 "NestCellsModel" "were" "[I"]
def wsX1_release_r2 : List Cond := [Cond.methodLink RX1 83 yX1_points, Cond.instanceMethod yX1_points, Cond.selects RX1 yX1_points yX1_points, Cond.code yX1_points cX1_points 1 (some .int), Cond.methodLink RX1 68 yX1_first, Cond.instanceMethod yX1_first, Cond.selects RX1 yX1_first yX1_first, Cond.code yX1_first cX1_first 2 (some .int)]
def wsX1_release : List Cond := .code yX1_release cX1_release 2 (some .int) :: ((wsX1_release_r1 ++ wsX1_release_r2) ++ wsX10)
def wsX1_crash : List Cond := .code yX1_crash cX1_crash 2 none :: ([.fieldLink RX1 25 "NestCellsModel" "code" "I", .fieldLink RX1 43 "NestCellsModel" "told" "I"] ++ wsX10)
def wsX1_recover : List Cond := .code yX1_recover cX1_recover 4 (some .int) :: ([.fieldLink RX1 25 "NestCellsModel" "code" "I", .fieldLink RX1 43 "NestCellsModel" "told" "I", .fieldLink RX1 39 "NestCellsModel" "off" "Z", .fieldLink RX1 29 "NestCellsModel" "levels" "I", .fieldLink RX1 36 "NestCellsModel" "transactions" "I", .fieldLink RX1 13 "NestCellsModel" "disk" "[I", .fieldLink RX1 46 "NestCellsModel" "writes" "I", .fieldLink RX1 7 "NestCellsModel" "cells" "[I", .methodLink RX1 57 yX1_isCell, .static yX1_isCell, .initialized RX1, .code yX1_isCell cX1_isCell 1 (some .boolean)] ++ wsX10)
def wsX1_disk : List Cond := .code yX1_disk cX1_disk 2 (some .int) :: ([.fieldLink RX1 13 "NestCellsModel" "disk" "[I", .methodLink RX1 49 yX1_refuses, .instanceMethod yX1_refuses, .selects RX1 yX1_refuses yX1_refuses, .initialized RX1, .code yX1_refuses cX1_refuses 2 (some .boolean), .fieldLink RX1 25 "NestCellsModel" "code" "I"] ++ wsX10)
def wsX1_spoil : List Cond := .code yX1_spoil cX1_spoil 4 (some .int) :: ([.fieldLink RX1 13 "NestCellsModel" "disk" "[I", .methodLink RX1 49 yX1_refuses, .instanceMethod yX1_refuses, .selects RX1 yX1_refuses yX1_refuses, .initialized RX1, .code yX1_refuses cX1_refuses 2 (some .boolean), .fieldLink RX1 25 "NestCellsModel" "code" "I"] ++ wsX10)
def wsX1_level : List Cond := .code yX1_level cX1_level 3 (some .int) :: ([.fieldLink RX1 29 "NestCellsModel" "levels" "I", .fieldLink RX1 19 "NestCellsModel" "written" "[I", .fieldLink RX1 22 "NestCellsModel" "names" "[I", .methodLink RX1 49 yX1_refuses, .instanceMethod yX1_refuses, .selects RX1 yX1_refuses yX1_refuses, .initialized RX1, .code yX1_refuses cX1_refuses 2 (some .boolean), .fieldLink RX1 25 "NestCellsModel" "code" "I", .methodLink RX1 32 yX1_bits, .static yX1_bits, .code yX1_bits cX1_bits 3 (some .int)] ++ wsX10)
def wsX1_about_r1 : List Cond := [Cond.fieldLink RX1 36 "NestCellsModel" "transactions" "I", Cond.fieldLink RX1 29 "NestCellsModel" "levels" "I", Cond.fieldLink RX1 43 "NestCellsModel" "told" "I", Cond.fieldLink RX1 46 "NestCellsModel" "writes" "I", Cond.fieldLink RX1 39 "NestCellsModel" "off" "Z", Cond.methodLink RX1 49 yX1_refuses, Cond.instanceMethod yX1_refuses, Cond.selects RX1 yX1_refuses yX1_refuses, Cond.initialized RX1, Cond.code yX1_refuses cX1_refuses 2 (some .boolean), Cond.fieldLink RX1 25 "NestCellsModel" "code" "I", Cond.methodLink RX1 60 yX1_traces, Cond.instanceMethod yX1_traces, Cond.selects RX1 yX1_traces yX1_traces, Cond.code yX1_traces cX1_traces 3 (some .int), Cond.fieldLink RX1 19 "NestCellsModel" "written" "[I", Cond.methodLink RX1 32 yX1_bits, Cond.static yX1_bits, Cond.code yX1_bits cX1_bits 3 (some .int), Cond.methodLink RX1 83 yX1_points, Cond.instanceMethod yX1_points, Cond.selects RX1 yX1_points yX1_points, Cond.code yX1_points cX1_points 1 (some .int), Cond.methodLink RX1 68 yX1_first]
def wsX1_about_r2 : List Cond := [Cond.instanceMethod yX1_first, Cond.selects RX1 yX1_first yX1_first, Cond.code yX1_first cX1_first 2 (some .int), Cond.fieldLink RX1 22 "NestCellsModel" "names" "[I"]
def wsX1_about : List Cond := .code yX1_about cX1_about 2 (some .int) :: ((wsX1_about_r1 ++ wsX1_about_r2) ++ wsX10)
def wsL_begin : List Cond := .codeWith yL_begin cL_begin 3 (some .int) [(0, 8, 11, 13)] :: ([.classLink RL 13 "java/lang/IllegalStateException", .methodLink RL 7 yX0_begin, .instanceMethod yX0_begin, .selects RX0 yX0_begin yX0_begin, .initialized RX0, .code yX0_begin cX0_begin 1 (some .int), .classLink RX0 54 "java/lang/IllegalStateException", .initialized "java/lang/IllegalStateException", .fieldLink RX0 51 "NestCells" "transactions" "I", .methodLink RX0 48 yX0_needPower, .instanceMethod yX0_needPower, .selects RX0 yX0_needPower yX0_needPower, .code yX0_needPower cX0_needPower 1 none, .fieldLink RX0 44 "NestCells" "off" "Z", .methodLink RX0 61 yX0_openLevel, .instanceMethod yX0_openLevel, .selects RX0 yX0_openLevel yX0_openLevel, .code yX0_openLevel cX0_openLevel 2 none, .fieldLink RX0 16 "NestCells" "levelName" "[I", .fieldLink RX0 71 "NestCells" "levels" "I"] ++ wsX00 ++ (vx_atS RX0 58 "java/lang/IllegalStateException" ["java/lang/RuntimeException", "java/lang/Exception"]).filter goodWord)
def wsL_write_r1 : List Cond := [Cond.classLink RL 19 "java/lang/IllegalArgumentException", Cond.classLink RL 13 "java/lang/IllegalStateException", Cond.methodLink RL 15 yX0_write, Cond.instanceMethod yX0_write, Cond.selects RX0 yX0_write yX0_write, Cond.initialized RX0, Cond.code yX0_write cX0_write 5 (some .int), Cond.classLink RX0 54 "java/lang/IllegalStateException", Cond.initialized "java/lang/IllegalStateException", Cond.fieldLink RX0 71 "NestCells" "levels" "I", Cond.fieldLink RX0 82 "NestCells" "traces" "I", Cond.fieldLink RX0 13 "NestCells" "cells" "[I", Cond.methodLink RX0 65 yX0_needCell, Cond.instanceMethod yX0_needCell, Cond.selects RX0 yX0_needCell yX0_needCell, Cond.code yX0_needCell cX0_needCell 2 none, Cond.classLink RX0 131 "java/lang/IllegalArgumentException", Cond.initialized "java/lang/IllegalArgumentException", Cond.methodLink RX0 149 yX0_isCell, Cond.static yX0_isCell, Cond.code yX0_isCell cX0_isCell 1 (some .boolean), Cond.methodLink RX0 68 yX0_needTransaction, Cond.instanceMethod yX0_needTransaction, Cond.selects RX0 yX0_needTransaction yX0_needTransaction]
def wsL_write_r2 : List Cond := [Cond.code yX0_needTransaction cX0_needTransaction 1 none, Cond.fieldLink RX0 51 "NestCells" "transactions" "I", Cond.methodLink RX0 48 yX0_needPower, Cond.instanceMethod yX0_needPower, Cond.selects RX0 yX0_needPower yX0_needPower, Cond.code yX0_needPower cX0_needPower 1 none, Cond.fieldLink RX0 44 "NestCells" "off" "Z", Cond.methodLink RX0 74 yX0_tracedCells, Cond.instanceMethod yX0_tracedCells, Cond.selects RX0 yX0_tracedCells yX0_tracedCells, Cond.code yX0_tracedCells cX0_tracedCells 4 (some .int), Cond.fieldLink RX0 19 "NestCells" "traceLevel" "[I", Cond.fieldLink RX0 22 "NestCells" "traceCell" "[I", Cond.methodLink RX0 78 yX0_holds, Cond.static yX0_holds, Cond.code yX0_holds cX0_holds 2 (some .boolean), Cond.methodLink RX0 87 yX0_leaveTrace, Cond.instanceMethod yX0_leaveTrace, Cond.selects RX0 yX0_leaveTrace yX0_leaveTrace, Cond.code yX0_leaveTrace cX0_leaveTrace 3 none, Cond.fieldLink RX0 25 "NestCells" "traceWas" "[I"]
def wsL_write : List Cond := .codeWith yL_write cL_write 5 (some .int) [(0, 10, 13, 19), (0, 10, 17, 13)] :: ((wsL_write_r1 ++ wsL_write_r2) ++ wsX00 ++ (vx_atS RX0 58 "java/lang/IllegalStateException" ["java/lang/RuntimeException", "java/lang/Exception"]).filter goodWord ++ (vx_atS RX0 135 "java/lang/IllegalArgumentException" ["java/lang/RuntimeException", "java/lang/Exception"]).filter goodWord)
def wsL_read : List Cond := .codeWith yL_read cL_read 4 (some .int) [(0, 9, 12, 19), (0, 9, 15, 13)] :: ([.classLink RL 19 "java/lang/IllegalArgumentException", .classLink RL 13 "java/lang/IllegalStateException", .methodLink RL 21 yX0_read, .instanceMethod yX0_read, .selects RX0 yX0_read yX0_read, .initialized RX0, .code yX0_read cX0_read 2 (some .int), .fieldLink RX0 13 "NestCells" "cells" "[I", .methodLink RX0 65 yX0_needCell, .instanceMethod yX0_needCell, .selects RX0 yX0_needCell yX0_needCell, .code yX0_needCell cX0_needCell 2 none, .classLink RX0 131 "java/lang/IllegalArgumentException", .initialized "java/lang/IllegalArgumentException", .methodLink RX0 149 yX0_isCell, .static yX0_isCell, .code yX0_isCell cX0_isCell 1 (some .boolean), .methodLink RX0 48 yX0_needPower, .instanceMethod yX0_needPower, .selects RX0 yX0_needPower yX0_needPower, .code yX0_needPower cX0_needPower 1 none, .classLink RX0 54 "java/lang/IllegalStateException", .initialized "java/lang/IllegalStateException", .fieldLink RX0 44 "NestCells" "off" "Z"] ++ wsX00 ++ (vx_atS RX0 135 "java/lang/IllegalArgumentException" ["java/lang/RuntimeException", "java/lang/Exception"]).filter goodWord ++ (vx_atS RX0 58 "java/lang/IllegalStateException" ["java/lang/RuntimeException", "java/lang/Exception"]).filter goodWord)
def wsL_commit_r1 : List Cond := [Cond.classLink RL 13 "java/lang/IllegalStateException", Cond.methodLink RL 25 yX0_commit, Cond.instanceMethod yX0_commit, Cond.selects RX0 yX0_commit yX0_commit, Cond.initialized RX0, Cond.code yX0_commit cX0_commit 3 (some .int), Cond.fieldLink RX0 71 "NestCells" "levels" "I", Cond.fieldLink RX0 51 "NestCells" "transactions" "I", Cond.fieldLink RX0 44 "NestCells" "off" "Z", Cond.methodLink RX0 68 yX0_needTransaction, Cond.instanceMethod yX0_needTransaction, Cond.selects RX0 yX0_needTransaction yX0_needTransaction, Cond.code yX0_needTransaction cX0_needTransaction 1 none, Cond.classLink RX0 54 "java/lang/IllegalStateException", Cond.initialized "java/lang/IllegalStateException", Cond.methodLink RX0 48 yX0_needPower, Cond.instanceMethod yX0_needPower, Cond.selects RX0 yX0_needPower yX0_needPower, Cond.code yX0_needPower cX0_needPower 1 none, Cond.methodLink RX0 91 yX0_innermostLevel, Cond.instanceMethod yX0_innermostLevel, Cond.selects RX0 yX0_innermostLevel yX0_innermostLevel, Cond.code yX0_innermostLevel cX0_innermostLevel 2 (some .int), Cond.fieldLink RX0 16 "NestCells" "levelName" "[I"]
def wsL_commit_r2 : List Cond := [Cond.methodLink RX0 95 yX0_foldLevel, Cond.instanceMethod yX0_foldLevel, Cond.selects RX0 yX0_foldLevel yX0_foldLevel, Cond.code yX0_foldLevel cX0_foldLevel 5 none, Cond.fieldLink RX0 82 "NestCells" "traces" "I", Cond.fieldLink RX0 19 "NestCells" "traceLevel" "[I", Cond.fieldLink RX0 22 "NestCells" "traceCell" "[I", Cond.fieldLink RX0 25 "NestCells" "traceWas" "[I", Cond.methodLink RX0 74 yX0_tracedCells, Cond.instanceMethod yX0_tracedCells, Cond.selects RX0 yX0_tracedCells yX0_tracedCells, Cond.code yX0_tracedCells cX0_tracedCells 4 (some .int), Cond.methodLink RX0 78 yX0_holds, Cond.static yX0_holds, Cond.code yX0_holds cX0_holds 2 (some .boolean), Cond.methodLink RX0 98 yX0_keepOnDisk, Cond.instanceMethod yX0_keepOnDisk, Cond.selects RX0 yX0_keepOnDisk yX0_keepOnDisk, Cond.code yX0_keepOnDisk cX0_keepOnDisk 3 none, Cond.fieldLink RX0 9 "NestCells" "words" "[I", Cond.methodLink RX0 136 yJ6_bitCount_0f7a4, Cond.static yJ6_bitCount_0f7a4, Cond.initialized RJ6, Cond.code yJ6_bitCount_0f7a4 cJ6_bitCount_0f7a4 1 (some .int)]
def wsL_commit_r3 : List Cond := [Cond.constant RJ6 265 (1431655765), Cond.constant RJ6 266 (858993459), Cond.constant RJ6 267 (252645135), Cond.methodLink RX0 161 yX0_writeEntries, Cond.instanceMethod yX0_writeEntries, Cond.selects RX0 yX0_writeEntries yX0_writeEntries, Cond.code yX0_writeEntries cX0_writeEntries 4 none, Cond.fieldLink RX0 13 "NestCells" "cells" "[I", Cond.methodLink RX0 119 yX0_putWord, Cond.instanceMethod yX0_putWord, Cond.selects RX0 yX0_putWord yX0_putWord, Cond.code yX0_putWord cX0_putWord 3 none, Cond.fieldLink RX0 37 "NestCells" "writesTillCrash" "I", Cond.fieldLink RX0 41 "NestCells" "writesInAll" "I", Cond.methodLink RX0 164 yX0_writeHomes, Cond.instanceMethod yX0_writeHomes, Cond.selects RX0 yX0_writeHomes yX0_writeHomes, Cond.code yX0_writeHomes cX0_writeHomes 3 none, Cond.methodLink RX0 34 yX0_forgetTransactions, Cond.instanceMethod yX0_forgetTransactions, Cond.selects RX0 yX0_forgetTransactions yX0_forgetTransactions, Cond.code yX0_forgetTransactions cX0_forgetTransactions 1 none]
def wsL_commit : List Cond := .codeWith yL_commit cL_commit 3 (some .int) [(0, 8, 11, 13)] :: ((wsL_commit_r1 ++ (wsL_commit_r2 ++ wsL_commit_r3)) ++ wsX00 ++ (vx_atS RX0 58 "java/lang/IllegalStateException" ["java/lang/RuntimeException", "java/lang/Exception"]).filter goodWord)
def wsL_abort_r1 : List Cond := [Cond.classLink RL 13 "java/lang/IllegalStateException", Cond.methodLink RL 28 yX0_abort, Cond.instanceMethod yX0_abort, Cond.selects RX0 yX0_abort yX0_abort, Cond.initialized RX0, Cond.code yX0_abort cX0_abort 2 (some .int), Cond.fieldLink RX0 51 "NestCells" "transactions" "I", Cond.methodLink RX0 68 yX0_needTransaction, Cond.instanceMethod yX0_needTransaction, Cond.selects RX0 yX0_needTransaction yX0_needTransaction, Cond.code yX0_needTransaction cX0_needTransaction 1 none, Cond.classLink RX0 54 "java/lang/IllegalStateException", Cond.initialized "java/lang/IllegalStateException", Cond.methodLink RX0 48 yX0_needPower, Cond.instanceMethod yX0_needPower, Cond.selects RX0 yX0_needPower yX0_needPower, Cond.code yX0_needPower cX0_needPower 1 none, Cond.fieldLink RX0 44 "NestCells" "off" "Z", Cond.methodLink RX0 91 yX0_innermostLevel, Cond.instanceMethod yX0_innermostLevel, Cond.selects RX0 yX0_innermostLevel yX0_innermostLevel, Cond.code yX0_innermostLevel cX0_innermostLevel 2 (some .int), Cond.fieldLink RX0 71 "NestCells" "levels" "I", Cond.fieldLink RX0 16 "NestCells" "levelName" "[I"]
def wsL_abort_r2 : List Cond := [Cond.methodLink RX0 101 yX0_goBack, Cond.instanceMethod yX0_goBack, Cond.selects RX0 yX0_goBack yX0_goBack, Cond.code yX0_goBack cX0_goBack 3 (some .int), Cond.fieldLink RX0 82 "NestCells" "traces" "I", Cond.fieldLink RX0 19 "NestCells" "traceLevel" "[I", Cond.fieldLink RX0 13 "NestCells" "cells" "[I", Cond.fieldLink RX0 22 "NestCells" "traceCell" "[I", Cond.fieldLink RX0 25 "NestCells" "traceWas" "[I"]
def wsL_abort : List Cond := .codeWith yL_abort cL_abort 3 (some .int) [(0, 8, 11, 13)] :: ((wsL_abort_r1 ++ wsL_abort_r2) ++ wsX00 ++ (vx_atS RX0 58 "java/lang/IllegalStateException" ["java/lang/RuntimeException", "java/lang/Exception"]).filter goodWord)
def wsL_point_r1 : List Cond := [Cond.classLink RL 19 "java/lang/IllegalArgumentException", Cond.classLink RL 13 "java/lang/IllegalStateException", Cond.methodLink RL 31 yX0_point, Cond.instanceMethod yX0_point, Cond.selects RX0 yX0_point yX0_point, Cond.initialized RX0, Cond.code yX0_point cX0_point 3 (some .int), Cond.methodLink RX0 104 yX0_needName, Cond.instanceMethod yX0_needName, Cond.selects RX0 yX0_needName yX0_needName, Cond.code yX0_needName cX0_needName 2 none, Cond.classLink RX0 131 "java/lang/IllegalArgumentException", Cond.initialized "java/lang/IllegalArgumentException", Cond.methodLink RX0 68 yX0_needTransaction, Cond.instanceMethod yX0_needTransaction, Cond.selects RX0 yX0_needTransaction yX0_needTransaction, Cond.code yX0_needTransaction cX0_needTransaction 1 none, Cond.classLink RX0 54 "java/lang/IllegalStateException", Cond.initialized "java/lang/IllegalStateException", Cond.fieldLink RX0 51 "NestCells" "transactions" "I", Cond.methodLink RX0 48 yX0_needPower, Cond.instanceMethod yX0_needPower, Cond.selects RX0 yX0_needPower yX0_needPower, Cond.code yX0_needPower cX0_needPower 1 none]
def wsL_point_r2 : List Cond := [Cond.fieldLink RX0 44 "NestCells" "off" "Z", Cond.methodLink RX0 107 yX0_pointLevel, Cond.instanceMethod yX0_pointLevel, Cond.selects RX0 yX0_pointLevel yX0_pointLevel, Cond.code yX0_pointLevel cX0_pointLevel 4 (some .int), Cond.fieldLink RX0 71 "NestCells" "levels" "I", Cond.fieldLink RX0 16 "NestCells" "levelName" "[I", Cond.methodLink RX0 91 yX0_innermostLevel, Cond.instanceMethod yX0_innermostLevel, Cond.selects RX0 yX0_innermostLevel yX0_innermostLevel, Cond.code yX0_innermostLevel cX0_innermostLevel 2 (some .int), Cond.methodLink RX0 95 yX0_foldLevel, Cond.instanceMethod yX0_foldLevel, Cond.selects RX0 yX0_foldLevel yX0_foldLevel, Cond.code yX0_foldLevel cX0_foldLevel 5 none, Cond.fieldLink RX0 82 "NestCells" "traces" "I", Cond.fieldLink RX0 19 "NestCells" "traceLevel" "[I", Cond.fieldLink RX0 22 "NestCells" "traceCell" "[I", Cond.fieldLink RX0 25 "NestCells" "traceWas" "[I", Cond.methodLink RX0 74 yX0_tracedCells, Cond.instanceMethod yX0_tracedCells, Cond.selects RX0 yX0_tracedCells yX0_tracedCells, Cond.code yX0_tracedCells cX0_tracedCells 4 (some .int), Cond.methodLink RX0 78 yX0_holds]
def wsL_point_r3 : List Cond := [Cond.static yX0_holds, Cond.code yX0_holds cX0_holds 2 (some .boolean), Cond.methodLink RX0 61 yX0_openLevel, Cond.instanceMethod yX0_openLevel, Cond.selects RX0 yX0_openLevel yX0_openLevel, Cond.code yX0_openLevel cX0_openLevel 2 none, Cond.methodLink RX0 110 yX0_points, Cond.instanceMethod yX0_points, Cond.selects RX0 yX0_points yX0_points, Cond.code yX0_points cX0_points 1 (some .int)]
def wsL_point : List Cond := .codeWith yL_point cL_point 4 (some .int) [(0, 9, 12, 19), (0, 9, 15, 13)] :: ((wsL_point_r1 ++ (wsL_point_r2 ++ wsL_point_r3)) ++ wsX00 ++ (vx_atS RX0 135 "java/lang/IllegalArgumentException" ["java/lang/RuntimeException", "java/lang/Exception"]).filter goodWord ++ (vx_atS RX0 58 "java/lang/IllegalStateException" ["java/lang/RuntimeException", "java/lang/Exception"]).filter goodWord)
def wsL_back_r1 : List Cond := [Cond.classLink RL 19 "java/lang/IllegalArgumentException", Cond.classLink RL 13 "java/lang/IllegalStateException", Cond.methodLink RL 34 yX0_back, Cond.instanceMethod yX0_back, Cond.selects RX0 yX0_back yX0_back, Cond.initialized RX0, Cond.code yX0_back cX0_back 3 (some .int), Cond.methodLink RX0 104 yX0_needName, Cond.instanceMethod yX0_needName, Cond.selects RX0 yX0_needName yX0_needName, Cond.code yX0_needName cX0_needName 2 none, Cond.classLink RX0 131 "java/lang/IllegalArgumentException", Cond.initialized "java/lang/IllegalArgumentException", Cond.methodLink RX0 68 yX0_needTransaction, Cond.instanceMethod yX0_needTransaction, Cond.selects RX0 yX0_needTransaction yX0_needTransaction, Cond.code yX0_needTransaction cX0_needTransaction 1 none, Cond.classLink RX0 54 "java/lang/IllegalStateException", Cond.initialized "java/lang/IllegalStateException", Cond.fieldLink RX0 51 "NestCells" "transactions" "I", Cond.methodLink RX0 48 yX0_needPower, Cond.instanceMethod yX0_needPower, Cond.selects RX0 yX0_needPower yX0_needPower, Cond.code yX0_needPower cX0_needPower 1 none]
def wsL_back_r2 : List Cond := [Cond.fieldLink RX0 44 "NestCells" "off" "Z", Cond.methodLink RX0 113 yX0_needPoint, Cond.instanceMethod yX0_needPoint, Cond.selects RX0 yX0_needPoint yX0_needPoint, Cond.code yX0_needPoint cX0_needPoint 3 (some .int), Cond.methodLink RX0 107 yX0_pointLevel, Cond.instanceMethod yX0_pointLevel, Cond.selects RX0 yX0_pointLevel yX0_pointLevel, Cond.code yX0_pointLevel cX0_pointLevel 4 (some .int), Cond.fieldLink RX0 71 "NestCells" "levels" "I", Cond.fieldLink RX0 16 "NestCells" "levelName" "[I", Cond.methodLink RX0 91 yX0_innermostLevel, Cond.instanceMethod yX0_innermostLevel, Cond.selects RX0 yX0_innermostLevel yX0_innermostLevel, Cond.code yX0_innermostLevel cX0_innermostLevel 2 (some .int), Cond.methodLink RX0 101 yX0_goBack, Cond.instanceMethod yX0_goBack, Cond.selects RX0 yX0_goBack yX0_goBack, Cond.code yX0_goBack cX0_goBack 3 (some .int), Cond.fieldLink RX0 82 "NestCells" "traces" "I", Cond.fieldLink RX0 19 "NestCells" "traceLevel" "[I", Cond.fieldLink RX0 13 "NestCells" "cells" "[I", Cond.fieldLink RX0 22 "NestCells" "traceCell" "[I", Cond.fieldLink RX0 25 "NestCells" "traceWas" "[I"]
def wsL_back_r3 : List Cond := [Cond.methodLink RX0 61 yX0_openLevel, Cond.instanceMethod yX0_openLevel, Cond.selects RX0 yX0_openLevel yX0_openLevel, Cond.code yX0_openLevel cX0_openLevel 2 none]
def wsL_back : List Cond := .codeWith yL_back cL_back 4 (some .int) [(0, 9, 12, 19), (0, 9, 15, 13)] :: ((wsL_back_r1 ++ (wsL_back_r2 ++ wsL_back_r3)) ++ wsX00 ++ (vx_atS RX0 135 "java/lang/IllegalArgumentException" ["java/lang/RuntimeException", "java/lang/Exception"]).filter goodWord ++ (vx_atS RX0 58 "java/lang/IllegalStateException" ["java/lang/RuntimeException", "java/lang/Exception"]).filter goodWord)
def wsL_release_r1 : List Cond := [Cond.classLink RL 19 "java/lang/IllegalArgumentException", Cond.classLink RL 13 "java/lang/IllegalStateException", Cond.methodLink RL 37 yX0_release, Cond.instanceMethod yX0_release, Cond.selects RX0 yX0_release yX0_release, Cond.initialized RX0, Cond.code yX0_release cX0_release 2 (some .int), Cond.methodLink RX0 104 yX0_needName, Cond.instanceMethod yX0_needName, Cond.selects RX0 yX0_needName yX0_needName, Cond.code yX0_needName cX0_needName 2 none, Cond.classLink RX0 131 "java/lang/IllegalArgumentException", Cond.initialized "java/lang/IllegalArgumentException", Cond.methodLink RX0 68 yX0_needTransaction, Cond.instanceMethod yX0_needTransaction, Cond.selects RX0 yX0_needTransaction yX0_needTransaction, Cond.code yX0_needTransaction cX0_needTransaction 1 none, Cond.classLink RX0 54 "java/lang/IllegalStateException", Cond.initialized "java/lang/IllegalStateException", Cond.fieldLink RX0 51 "NestCells" "transactions" "I", Cond.methodLink RX0 48 yX0_needPower, Cond.instanceMethod yX0_needPower, Cond.selects RX0 yX0_needPower yX0_needPower, Cond.code yX0_needPower cX0_needPower 1 none]
def wsL_release_r2 : List Cond := [Cond.fieldLink RX0 44 "NestCells" "off" "Z", Cond.methodLink RX0 113 yX0_needPoint, Cond.instanceMethod yX0_needPoint, Cond.selects RX0 yX0_needPoint yX0_needPoint, Cond.code yX0_needPoint cX0_needPoint 3 (some .int), Cond.methodLink RX0 107 yX0_pointLevel, Cond.instanceMethod yX0_pointLevel, Cond.selects RX0 yX0_pointLevel yX0_pointLevel, Cond.code yX0_pointLevel cX0_pointLevel 4 (some .int), Cond.fieldLink RX0 71 "NestCells" "levels" "I", Cond.fieldLink RX0 16 "NestCells" "levelName" "[I", Cond.methodLink RX0 91 yX0_innermostLevel, Cond.instanceMethod yX0_innermostLevel, Cond.selects RX0 yX0_innermostLevel yX0_innermostLevel, Cond.code yX0_innermostLevel cX0_innermostLevel 2 (some .int), Cond.methodLink RX0 95 yX0_foldLevel, Cond.instanceMethod yX0_foldLevel, Cond.selects RX0 yX0_foldLevel yX0_foldLevel, Cond.code yX0_foldLevel cX0_foldLevel 5 none, Cond.fieldLink RX0 82 "NestCells" "traces" "I", Cond.fieldLink RX0 19 "NestCells" "traceLevel" "[I", Cond.fieldLink RX0 22 "NestCells" "traceCell" "[I", Cond.fieldLink RX0 25 "NestCells" "traceWas" "[I", Cond.methodLink RX0 74 yX0_tracedCells]
def wsL_release_r3 : List Cond := [Cond.instanceMethod yX0_tracedCells, Cond.selects RX0 yX0_tracedCells yX0_tracedCells, Cond.code yX0_tracedCells cX0_tracedCells 4 (some .int), Cond.methodLink RX0 78 yX0_holds, Cond.static yX0_holds, Cond.code yX0_holds cX0_holds 2 (some .boolean), Cond.methodLink RX0 110 yX0_points, Cond.instanceMethod yX0_points, Cond.selects RX0 yX0_points yX0_points, Cond.code yX0_points cX0_points 1 (some .int)]
def wsL_release : List Cond := .codeWith yL_release cL_release 4 (some .int) [(0, 9, 12, 19), (0, 9, 15, 13)] :: ((wsL_release_r1 ++ (wsL_release_r2 ++ wsL_release_r3)) ++ wsX00 ++ (vx_atS RX0 135 "java/lang/IllegalArgumentException" ["java/lang/RuntimeException", "java/lang/Exception"]).filter goodWord ++ (vx_atS RX0 58 "java/lang/IllegalStateException" ["java/lang/RuntimeException", "java/lang/Exception"]).filter goodWord)
def wsL_disk : List Cond := .codeWith yL_disk cL_disk 4 (some .int) [(0, 9, 12, 19)] :: ([.classLink RL 19 "java/lang/IllegalArgumentException", .methodLink RL 40 yX0_disk, .instanceMethod yX0_disk, .selects RX0 yX0_disk yX0_disk, .initialized RX0, .code yX0_disk cX0_disk 2 (some .int), .fieldLink RX0 9 "NestCells" "words" "[I", .methodLink RX0 128 yX0_needWord, .instanceMethod yX0_needWord, .selects RX0 yX0_needWord yX0_needWord, .code yX0_needWord cX0_needWord 2 none, .classLink RX0 131 "java/lang/IllegalArgumentException", .initialized "java/lang/IllegalArgumentException"] ++ wsX00 ++ (vx_atS RX0 135 "java/lang/IllegalArgumentException" ["java/lang/RuntimeException", "java/lang/Exception"]).filter goodWord)
def wsL_spoil : List Cond := .codeWith yL_spoil cL_spoil 5 (some .int) [(0, 10, 13, 19)] :: ([.classLink RL 19 "java/lang/IllegalArgumentException", .methodLink RL 43 yX0_spoil, .instanceMethod yX0_spoil, .selects RX0 yX0_spoil yX0_spoil, .initialized RX0, .code yX0_spoil cX0_spoil 4 (some .int), .fieldLink RX0 9 "NestCells" "words" "[I", .methodLink RX0 128 yX0_needWord, .instanceMethod yX0_needWord, .selects RX0 yX0_needWord yX0_needWord, .code yX0_needWord cX0_needWord 2 none, .classLink RX0 131 "java/lang/IllegalArgumentException", .initialized "java/lang/IllegalArgumentException"] ++ wsX00 ++ (vx_atS RX0 135 "java/lang/IllegalArgumentException" ["java/lang/RuntimeException", "java/lang/Exception"]).filter goodWord)
def wsL_level : List Cond := .codeWith yL_level cL_level 5 (some .int) [(0, 10, 13, 19)] :: ([.classLink RL 19 "java/lang/IllegalArgumentException", .methodLink RL 46 yX0_level, .instanceMethod yX0_level, .selects RX0 yX0_level yX0_level, .initialized RX0, .code yX0_level cX0_level 3 (some .int), .classLink RX0 131 "java/lang/IllegalArgumentException", .initialized "java/lang/IllegalArgumentException", .fieldLink RX0 71 "NestCells" "levels" "I", .fieldLink RX0 16 "NestCells" "levelName" "[I", .methodLink RX0 74 yX0_tracedCells, .instanceMethod yX0_tracedCells, .selects RX0 yX0_tracedCells yX0_tracedCells, .code yX0_tracedCells cX0_tracedCells 4 (some .int), .fieldLink RX0 82 "NestCells" "traces" "I", .fieldLink RX0 19 "NestCells" "traceLevel" "[I", .fieldLink RX0 22 "NestCells" "traceCell" "[I", .methodLink RX0 136 yJ6_bitCount_0f7a4, .static yJ6_bitCount_0f7a4, .initialized RJ6, .code yJ6_bitCount_0f7a4 cJ6_bitCount_0f7a4 1 (some .int), .constant RJ6 265 (1431655765), .constant RJ6 266 (858993459), .constant RJ6 267 (252645135)] ++ wsX00 ++ (vx_atS RX0 135 "java/lang/IllegalArgumentException" ["java/lang/RuntimeException", "java/lang/Exception"]).filter goodWord)
def wsL_about : List Cond := .codeWith yL_about cL_about 4 (some .int) [(0, 9, 12, 19)] :: ([.classLink RL 19 "java/lang/IllegalArgumentException", .methodLink RL 49 yX0_about, .instanceMethod yX0_about, .selects RX0 yX0_about yX0_about, .initialized RX0, .code yX0_about cX0_about 2 (some .int), .classLink RX0 131 "java/lang/IllegalArgumentException", .initialized "java/lang/IllegalArgumentException", .fieldLink RX0 51 "NestCells" "transactions" "I", .fieldLink RX0 71 "NestCells" "levels" "I", .fieldLink RX0 82 "NestCells" "traces" "I", .fieldLink RX0 37 "NestCells" "writesTillCrash" "I", .fieldLink RX0 41 "NestCells" "writesInAll" "I", .fieldLink RX0 44 "NestCells" "off" "Z", .methodLink RX0 110 yX0_points, .instanceMethod yX0_points, .selects RX0 yX0_points yX0_points, .code yX0_points cX0_points 1 (some .int), .methodLink RX0 91 yX0_innermostLevel, .instanceMethod yX0_innermostLevel, .selects RX0 yX0_innermostLevel yX0_innermostLevel, .code yX0_innermostLevel cX0_innermostLevel 2 (some .int), .fieldLink RX0 16 "NestCells" "levelName" "[I"] ++ wsX00 ++ (vx_atS RX0 135 "java/lang/IllegalArgumentException" ["java/lang/RuntimeException", "java/lang/Exception"]).filter goodWord)
def wsL_law0_r1 : List Cond := [Cond.classLink RL 8 RX0, Cond.instantiable RX0 12, Cond.initialized RX0, Cond.classLink RL 53 RX1, Cond.instantiable RX1 11, Cond.initialized RX1, Cond.arrayClass .long, Cond.methodLink RL 52 yX0_init, Cond.instanceMethod yX0_init, Cond.code yX0_init cX0_init 1 none, Cond.methodLink RX0 3 objectInit, Cond.instanceMethod objectInit, Cond.code objectInit ⟨#[0xb1]⟩ 1 none, Cond.arrayClass .int, Cond.fieldLink RX0 9 "NestCells" "words" "[I", Cond.fieldLink RX0 13 "NestCells" "cells" "[I", Cond.fieldLink RX0 16 "NestCells" "levelName" "[I", Cond.fieldLink RX0 19 "NestCells" "traceLevel" "[I", Cond.fieldLink RX0 22 "NestCells" "traceCell" "[I", Cond.fieldLink RX0 25 "NestCells" "traceWas" "[I", Cond.methodLink RL 55 yX1_init, Cond.instanceMethod yX1_init, Cond.code yX1_init cX1_init 1 none, Cond.methodLink RX1 1 objectInit]
def wsL_law0_r2 : List Cond := [Cond.fieldLink RX1 7 "NestCellsModel" "cells" "[I", Cond.fieldLink RX1 13 "NestCellsModel" "disk" "[I", Cond.fieldLink RX1 16 "NestCellsModel" "were" "[I", Cond.fieldLink RX1 19 "NestCellsModel" "written" "[I", Cond.fieldLink RX1 22 "NestCellsModel" "names" "[I", Cond.methodLink RL 56 yX0_format, Cond.instanceMethod yX0_format, Cond.selects RX0 yX0_format yX0_format, Cond.code yX0_format cX0_format 1 none, Cond.fieldLink RX0 37 "NestCells" "writesTillCrash" "I", Cond.fieldLink RX0 41 "NestCells" "writesInAll" "I", Cond.fieldLink RX0 44 "NestCells" "off" "Z", Cond.methodLink RX0 28 yJ7_fill_53178, Cond.static yJ7_fill_53178, Cond.initialized RJ7, Cond.code yJ7_fill_53178 cJ7_fill_53178 4 none, Cond.methodLink RX0 34 yX0_forgetTransactions, Cond.instanceMethod yX0_forgetTransactions, Cond.selects RX0 yX0_forgetTransactions yX0_forgetTransactions, Cond.code yX0_forgetTransactions cX0_forgetTransactions 1 none, Cond.fieldLink RX0 51 "NestCells" "transactions" "I", Cond.fieldLink RX0 71 "NestCells" "levels" "I", Cond.fieldLink RX0 82 "NestCells" "traces" "I", Cond.methodLink RL 59 yX1_format]
def wsL_law0_r3 : List Cond := [Cond.instanceMethod yX1_format, Cond.selects RX1 yX1_format yX1_format, Cond.code yX1_format cX1_format 2 none, Cond.fieldLink RX1 25 "NestCellsModel" "code" "I", Cond.fieldLink RX1 29 "NestCellsModel" "levels" "I", Cond.fieldLink RX1 36 "NestCellsModel" "transactions" "I", Cond.fieldLink RX1 39 "NestCellsModel" "off" "Z", Cond.fieldLink RX1 43 "NestCellsModel" "told" "I", Cond.fieldLink RX1 46 "NestCellsModel" "writes" "I", Cond.methodLink RL 60 yL_begin, Cond.static yL_begin, Cond.initialized RL, Cond.codeWith yL_begin cL_begin 3 (some .int) [(0, 8, 11, 13)], Cond.classLink RL 13 "java/lang/IllegalStateException", Cond.methodLink RL 7 yX0_begin, Cond.instanceMethod yX0_begin, Cond.selects RX0 yX0_begin yX0_begin, Cond.code yX0_begin cX0_begin 1 (some .int), Cond.classLink RX0 54 "java/lang/IllegalStateException", Cond.initialized "java/lang/IllegalStateException", Cond.methodLink RX0 48 yX0_needPower, Cond.instanceMethod yX0_needPower, Cond.selects RX0 yX0_needPower yX0_needPower, Cond.code yX0_needPower cX0_needPower 1 none]
def wsL_law0_r4 : List Cond := [Cond.methodLink RX0 61 yX0_openLevel, Cond.instanceMethod yX0_openLevel, Cond.selects RX0 yX0_openLevel yX0_openLevel, Cond.code yX0_openLevel cX0_openLevel 2 none, Cond.methodLink RL 65 yX1_begin, Cond.instanceMethod yX1_begin, Cond.selects RX1 yX1_begin yX1_begin, Cond.code yX1_begin cX1_begin 1 (some .int), Cond.methodLink RX1 49 yX1_refuses, Cond.instanceMethod yX1_refuses, Cond.selects RX1 yX1_refuses yX1_refuses, Cond.code yX1_refuses cX1_refuses 2 (some .boolean), Cond.methodLink RX1 53 yX1_opens, Cond.instanceMethod yX1_opens, Cond.selects RX1 yX1_opens yX1_opens, Cond.code yX1_opens cX1_opens 3 none, Cond.methodLink RL 66 yX1_thrown, Cond.instanceMethod yX1_thrown, Cond.selects RX1 yX1_thrown yX1_thrown, Cond.code yX1_thrown cX1_thrown 1 (some .int), Cond.methodLink RL 69 yL_write, Cond.static yL_write, Cond.codeWith yL_write cL_write 5 (some .int) [(0, 10, 13, 19), (0, 10, 17, 13)], Cond.classLink RL 19 "java/lang/IllegalArgumentException"]
def wsL_law0_r5 : List Cond := [Cond.methodLink RL 15 yX0_write, Cond.instanceMethod yX0_write, Cond.selects RX0 yX0_write yX0_write, Cond.code yX0_write cX0_write 5 (some .int), Cond.methodLink RX0 65 yX0_needCell, Cond.instanceMethod yX0_needCell, Cond.selects RX0 yX0_needCell yX0_needCell, Cond.code yX0_needCell cX0_needCell 2 none, Cond.classLink RX0 131 "java/lang/IllegalArgumentException", Cond.initialized "java/lang/IllegalArgumentException", Cond.methodLink RX0 149 yX0_isCell, Cond.static yX0_isCell, Cond.code yX0_isCell cX0_isCell 1 (some .boolean), Cond.methodLink RX0 68 yX0_needTransaction, Cond.instanceMethod yX0_needTransaction, Cond.selects RX0 yX0_needTransaction yX0_needTransaction, Cond.code yX0_needTransaction cX0_needTransaction 1 none, Cond.methodLink RX0 74 yX0_tracedCells, Cond.instanceMethod yX0_tracedCells, Cond.selects RX0 yX0_tracedCells yX0_tracedCells, Cond.code yX0_tracedCells cX0_tracedCells 4 (some .int), Cond.methodLink RX0 78 yX0_holds, Cond.static yX0_holds, Cond.code yX0_holds cX0_holds 2 (some .boolean)]
def wsL_law0_r6 : List Cond := [Cond.methodLink RX0 87 yX0_leaveTrace, Cond.instanceMethod yX0_leaveTrace, Cond.selects RX0 yX0_leaveTrace yX0_leaveTrace, Cond.code yX0_leaveTrace cX0_leaveTrace 3 none, Cond.methodLink RL 72 yX1_write, Cond.instanceMethod yX1_write, Cond.selects RX1 yX1_write yX1_write, Cond.code yX1_write cX1_write 6 (some .int), Cond.methodLink RX1 57 yX1_isCell, Cond.static yX1_isCell, Cond.code yX1_isCell cX1_isCell 1 (some .boolean), Cond.methodLink RX1 60 yX1_traces, Cond.instanceMethod yX1_traces, Cond.selects RX1 yX1_traces yX1_traces, Cond.code yX1_traces cX1_traces 3 (some .int), Cond.methodLink RX1 32 yX1_bits, Cond.static yX1_bits, Cond.code yX1_bits cX1_bits 3 (some .int), Cond.methodLink RL 73 yL_read, Cond.static yL_read, Cond.codeWith yL_read cL_read 4 (some .int) [(0, 9, 12, 19), (0, 9, 15, 13)], Cond.methodLink RL 21 yX0_read, Cond.instanceMethod yX0_read, Cond.selects RX0 yX0_read yX0_read]
def wsL_law0_r7 : List Cond := [Cond.code yX0_read cX0_read 2 (some .int), Cond.methodLink RL 76 yX1_read, Cond.instanceMethod yX1_read, Cond.selects RX1 yX1_read yX1_read, Cond.code yX1_read cX1_read 2 (some .int), Cond.methodLink RL 77 yL_commit, Cond.static yL_commit, Cond.codeWith yL_commit cL_commit 3 (some .int) [(0, 8, 11, 13)], Cond.methodLink RL 25 yX0_commit, Cond.instanceMethod yX0_commit, Cond.selects RX0 yX0_commit yX0_commit, Cond.code yX0_commit cX0_commit 3 (some .int), Cond.methodLink RX0 91 yX0_innermostLevel, Cond.instanceMethod yX0_innermostLevel, Cond.selects RX0 yX0_innermostLevel yX0_innermostLevel, Cond.code yX0_innermostLevel cX0_innermostLevel 2 (some .int), Cond.methodLink RX0 95 yX0_foldLevel, Cond.instanceMethod yX0_foldLevel, Cond.selects RX0 yX0_foldLevel yX0_foldLevel, Cond.code yX0_foldLevel cX0_foldLevel 5 none, Cond.methodLink RX0 98 yX0_keepOnDisk, Cond.instanceMethod yX0_keepOnDisk, Cond.selects RX0 yX0_keepOnDisk yX0_keepOnDisk, Cond.code yX0_keepOnDisk cX0_keepOnDisk 3 none]
def wsL_law0_r8 : List Cond := [Cond.methodLink RX0 136 yJ6_bitCount_0f7a4, Cond.static yJ6_bitCount_0f7a4, Cond.initialized RJ6, Cond.code yJ6_bitCount_0f7a4 cJ6_bitCount_0f7a4 1 (some .int), Cond.constant RJ6 265 (1431655765), Cond.constant RJ6 266 (858993459), Cond.constant RJ6 267 (252645135), Cond.methodLink RX0 161 yX0_writeEntries, Cond.instanceMethod yX0_writeEntries, Cond.selects RX0 yX0_writeEntries yX0_writeEntries, Cond.code yX0_writeEntries cX0_writeEntries 4 none, Cond.methodLink RX0 119 yX0_putWord, Cond.instanceMethod yX0_putWord, Cond.selects RX0 yX0_putWord yX0_putWord, Cond.code yX0_putWord cX0_putWord 3 none, Cond.methodLink RX0 164 yX0_writeHomes, Cond.instanceMethod yX0_writeHomes, Cond.selects RX0 yX0_writeHomes yX0_writeHomes, Cond.code yX0_writeHomes cX0_writeHomes 3 none, Cond.methodLink RL 79 yX1_commit, Cond.instanceMethod yX1_commit, Cond.selects RX1 yX1_commit yX1_commit, Cond.code yX1_commit cX1_commit 2 (some .int), Cond.methodLink RX1 68 yX1_first]
def wsL_law0_r9 : List Cond := [Cond.instanceMethod yX1_first, Cond.selects RX1 yX1_first yX1_first, Cond.code yX1_first cX1_first 2 (some .int), Cond.methodLink RX1 71 yX1_melts, Cond.instanceMethod yX1_melts, Cond.selects RX1 yX1_melts yX1_melts, Cond.code yX1_melts cX1_melts 4 none, Cond.methodLink RX1 74 yX1_stores, Cond.instanceMethod yX1_stores, Cond.selects RX1 yX1_stores yX1_stores, Cond.code yX1_stores cX1_stores 4 (some .boolean), Cond.methodLink RX1 64 yX1_puts, Cond.instanceMethod yX1_puts, Cond.selects RX1 yX1_puts yX1_puts, Cond.code yX1_puts cX1_puts 3 (some .boolean), Cond.methodLink RL 80 yL_abort, Cond.static yL_abort, Cond.codeWith yL_abort cL_abort 3 (some .int) [(0, 8, 11, 13)], Cond.methodLink RL 28 yX0_abort, Cond.instanceMethod yX0_abort, Cond.selects RX0 yX0_abort yX0_abort, Cond.code yX0_abort cX0_abort 2 (some .int), Cond.methodLink RX0 101 yX0_goBack, Cond.instanceMethod yX0_goBack]
def wsL_law0_r10 : List Cond := [Cond.selects RX0 yX0_goBack yX0_goBack, Cond.code yX0_goBack cX0_goBack 3 (some .int), Cond.methodLink RL 82 yX1_abort, Cond.instanceMethod yX1_abort, Cond.selects RX1 yX1_abort yX1_abort, Cond.code yX1_abort cX1_abort 3 (some .int), Cond.methodLink RX1 77 yX1_returns, Cond.instanceMethod yX1_returns, Cond.selects RX1 yX1_returns yX1_returns, Cond.code yX1_returns cX1_returns 4 (some .int), Cond.methodLink RL 83 yL_point, Cond.static yL_point, Cond.codeWith yL_point cL_point 4 (some .int) [(0, 9, 12, 19), (0, 9, 15, 13)], Cond.methodLink RL 31 yX0_point, Cond.instanceMethod yX0_point, Cond.selects RX0 yX0_point yX0_point, Cond.code yX0_point cX0_point 3 (some .int), Cond.methodLink RX0 104 yX0_needName, Cond.instanceMethod yX0_needName, Cond.selects RX0 yX0_needName yX0_needName, Cond.code yX0_needName cX0_needName 2 none, Cond.methodLink RX0 107 yX0_pointLevel, Cond.instanceMethod yX0_pointLevel, Cond.selects RX0 yX0_pointLevel yX0_pointLevel]
def wsL_law0_r11 : List Cond := [Cond.code yX0_pointLevel cX0_pointLevel 4 (some .int), Cond.methodLink RX0 110 yX0_points, Cond.instanceMethod yX0_points, Cond.selects RX0 yX0_points yX0_points, Cond.code yX0_points cX0_points 1 (some .int), Cond.methodLink RL 85 yX1_point, Cond.instanceMethod yX1_point, Cond.selects RX1 yX1_point yX1_point, Cond.code yX1_point cX1_point 3 (some .int), Cond.methodLink RX1 80 yX1_find, Cond.instanceMethod yX1_find, Cond.selects RX1 yX1_find yX1_find, Cond.code yX1_find cX1_find 3 (some .int), Cond.methodLink RX1 83 yX1_points, Cond.instanceMethod yX1_points, Cond.selects RX1 yX1_points yX1_points, Cond.code yX1_points cX1_points 1 (some .int), Cond.methodLink RL 86 yL_back, Cond.static yL_back, Cond.codeWith yL_back cL_back 4 (some .int) [(0, 9, 12, 19), (0, 9, 15, 13)], Cond.methodLink RL 34 yX0_back, Cond.instanceMethod yX0_back, Cond.selects RX0 yX0_back yX0_back, Cond.code yX0_back cX0_back 3 (some .int)]
def wsL_law0_r12 : List Cond := [Cond.methodLink RX0 113 yX0_needPoint, Cond.instanceMethod yX0_needPoint, Cond.selects RX0 yX0_needPoint yX0_needPoint, Cond.code yX0_needPoint cX0_needPoint 3 (some .int), Cond.methodLink RL 88 yX1_back, Cond.instanceMethod yX1_back, Cond.selects RX1 yX1_back yX1_back, Cond.code yX1_back cX1_back 4 (some .int), Cond.methodLink RX1 86 yX1_wrong, Cond.instanceMethod yX1_wrong, Cond.selects RX1 yX1_wrong yX1_wrong, Cond.code yX1_wrong cX1_wrong 2 (some .int), Cond.methodLink RL 89 yL_release, Cond.static yL_release, Cond.codeWith yL_release cL_release 4 (some .int) [(0, 9, 12, 19), (0, 9, 15, 13)], Cond.methodLink RL 37 yX0_release, Cond.instanceMethod yX0_release, Cond.selects RX0 yX0_release yX0_release, Cond.code yX0_release cX0_release 2 (some .int), Cond.methodLink RL 91 yX1_release, Cond.instanceMethod yX1_release, Cond.selects RX1 yX1_release yX1_release, Cond.code yX1_release cX1_release 2 (some .int), Cond.methodLink RL 92 yX0_crash]
def wsL_law0_r13 : List Cond := [Cond.instanceMethod yX0_crash, Cond.selects RX0 yX0_crash yX0_crash, Cond.code yX0_crash cX0_crash 2 none, Cond.methodLink RL 96 yX1_crash, Cond.instanceMethod yX1_crash, Cond.selects RX1 yX1_crash yX1_crash, Cond.code yX1_crash cX1_crash 2 none, Cond.methodLink RL 97 yX0_recover, Cond.instanceMethod yX0_recover, Cond.selects RX0 yX0_recover yX0_recover, Cond.code yX0_recover cX0_recover 2 (some .int), Cond.methodLink RX0 122 arraycopyName, Cond.native arraycopyName, Cond.static arraycopyName, Cond.initialized "java/lang/System", Cond.methodLink RX0 116 yX0_writeHomesFromEntries, Cond.instanceMethod yX0_writeHomesFromEntries, Cond.selects RX0 yX0_writeHomesFromEntries yX0_writeHomesFromEntries, Cond.code yX0_writeHomesFromEntries cX0_writeHomesFromEntries 5 (some .int), Cond.methodLink RL 100 yX1_recover, Cond.instanceMethod yX1_recover, Cond.selects RX1 yX1_recover yX1_recover, Cond.code yX1_recover cX1_recover 4 (some .int), Cond.methodLink RL 101 yL_disk]
def wsL_law0_r14 : List Cond := [Cond.static yL_disk, Cond.codeWith yL_disk cL_disk 4 (some .int) [(0, 9, 12, 19)], Cond.methodLink RL 40 yX0_disk, Cond.instanceMethod yX0_disk, Cond.selects RX0 yX0_disk yX0_disk, Cond.code yX0_disk cX0_disk 2 (some .int), Cond.methodLink RX0 128 yX0_needWord, Cond.instanceMethod yX0_needWord, Cond.selects RX0 yX0_needWord yX0_needWord, Cond.code yX0_needWord cX0_needWord 2 none, Cond.methodLink RL 103 yX1_disk, Cond.instanceMethod yX1_disk, Cond.selects RX1 yX1_disk yX1_disk, Cond.code yX1_disk cX1_disk 2 (some .int), Cond.methodLink RL 104 yL_spoil, Cond.static yL_spoil, Cond.codeWith yL_spoil cL_spoil 5 (some .int) [(0, 10, 13, 19)], Cond.methodLink RL 43 yX0_spoil, Cond.instanceMethod yX0_spoil, Cond.selects RX0 yX0_spoil yX0_spoil, Cond.code yX0_spoil cX0_spoil 4 (some .int), Cond.methodLink RL 106 yX1_spoil, Cond.instanceMethod yX1_spoil, Cond.selects RX1 yX1_spoil yX1_spoil]
def wsL_law0_r15 : List Cond := [Cond.code yX1_spoil cX1_spoil 4 (some .int), Cond.methodLink RL 107 yL_level, Cond.static yL_level, Cond.codeWith yL_level cL_level 5 (some .int) [(0, 10, 13, 19)], Cond.methodLink RL 46 yX0_level, Cond.instanceMethod yX0_level, Cond.selects RX0 yX0_level yX0_level, Cond.code yX0_level cX0_level 3 (some .int), Cond.methodLink RL 109 yX1_level, Cond.instanceMethod yX1_level, Cond.selects RX1 yX1_level yX1_level, Cond.code yX1_level cX1_level 3 (some .int), Cond.methodLink RL 110 yL_about, Cond.static yL_about, Cond.codeWith yL_about cL_about 4 (some .int) [(0, 9, 12, 19)], Cond.methodLink RL 49 yX0_about, Cond.instanceMethod yX0_about, Cond.selects RX0 yX0_about yX0_about, Cond.code yX0_about cX0_about 2 (some .int), Cond.methodLink RL 112 yX1_about, Cond.instanceMethod yX1_about, Cond.selects RX1 yX1_about yX1_about, Cond.code yX1_about cX1_about 2 (some .int)]
def wsL_law0 : List Cond := (wsL_law0_r1 ++ (wsL_law0_r2 ++ (wsL_law0_r3 ++ (wsL_law0_r4 ++ (wsL_law0_r5 ++ (wsL_law0_r6 ++ (wsL_law0_r7 ++ (wsL_law0_r8 ++ (wsL_law0_r9 ++ (wsL_law0_r10 ++ (wsL_law0_r11 ++ (wsL_law0_r12 ++ (wsL_law0_r13 ++ (wsL_law0_r14 ++ wsL_law0_r15)))))))))))))) ++ wsX00 ++ wsX10 ++ ([] : List Cond)
def wsL_law : List Cond := wsL_law0 ++ (vx_atS RX0 58 "java/lang/IllegalStateException" ["java/lang/RuntimeException", "java/lang/Exception"]).filter goodWord ++ (vx_atS RX0 135 "java/lang/IllegalArgumentException" ["java/lang/RuntimeException", "java/lang/Exception"]).filter goodWord
set_option maxRecDepth 20000 in
theorem wsL_law_in0 : ∀ w ∈ wsL_law0, w ∈ lw_tbl := fun w h => (goodIn_p wsL_law0 [47, 50, 381, 92, 95, 99, 424, 129, 133, 205, 428, 432, 436, 420, 213, 217, 114, 237, 242, 245, 250, 440, 443, 447, 450, 257, 454, 264, 268, 272, 276, 279, 286, 118, 290, 458, 462, 466, 470, 474, 297, 301, 478, 482, 308, 312, 317, 321, 486, 490, 494, 328, 332, 498, 502, 340, 506, 103, 510, 107, 111, 514, 347, 351, 518, 359, 522, 366, 526, 375, 530] (by decide +kernel) (by decide +kernel) w h).1
theorem wsL_law_x0 : ∀ w ∈ (vx_atS RX0 58 "java/lang/IllegalStateException" ["java/lang/RuntimeException", "java/lang/Exception"]).filter goodWord, w ∈ lw_tbl := by decide +kernel
theorem wsL_law_x1 : ∀ w ∈ (vx_atS RX0 135 "java/lang/IllegalArgumentException" ["java/lang/RuntimeException", "java/lang/Exception"]).filter goodWord, w ∈ lw_tbl := by decide +kernel
theorem wsL_law_in : ∀ w ∈ wsL_law, w ∈ lw_tbl := fun w h => (List.mem_append.mp h).elim (fun h => (List.mem_append.mp h).elim (fun h => wsL_law_in0 w h) (fun h => wsL_law_x0 w h)) (fun h => wsL_law_x1 w h)
theorem inlX0 : ∀ w ∈ wsX00, w ∈ wsL_law := fun _ h => List.mem_append_left _ (List.mem_append_left _ (List.mem_append_left _ (List.mem_append_left _ (List.mem_append_right _ h))))
theorem inX0 : ∀ w ∈ wsX00, w ∈ lw_tbl := fun w h => wsL_law_in w (inlX0 w h)
theorem inlX1 : ∀ w ∈ wsX10, w ∈ wsL_law := fun _ h => List.mem_append_left _ (List.mem_append_left _ (List.mem_append_left _ (List.mem_append_right _ h)))
theorem inX1 : ∀ w ∈ wsX10, w ∈ lw_tbl := fun w h => wsL_law_in w (inlX1 w h)
theorem inJx145de : ∀ w ∈ wsJx145de0, w ∈ lw_tbl := by decide +kernel
theorem inJ6 : ∀ w ∈ wsJ60, w ∈ lw_tbl := by decide +kernel
theorem inJ0 : ∀ w ∈ wsJ00, w ∈ lw_tbl := by decide +kernel
theorem inJ10 : ∀ w ∈ wsJ100, w ∈ lw_tbl := by decide +kernel
theorem inJ7 : ∀ w ∈ wsJ70, w ∈ lw_tbl := by decide +kernel
theorem dX0_init_0 : decode cX0_init 0 = .ok (.aload_n 0, 1) := by decide +kernel
theorem dX0_init_1 : decode cX0_init 1 = .ok (.invokespecial 3, 3) := by decide +kernel
theorem dX0_init_4 : decode cX0_init 4 = .ok (.aload_n 0, 1) := by decide +kernel
theorem dX0_init_5 : decode cX0_init 5 = .ok (.bipush 98, 2) := by decide +kernel
theorem dX0_init_7 : decode cX0_init 7 = .ok (.newarray .int, 2) := by decide +kernel
theorem dX0_init_9 : decode cX0_init 9 = .ok (.putfield 9, 3) := by decide +kernel
theorem dX0_init_12 : decode cX0_init 12 = .ok (.aload_n 0, 1) := by decide +kernel
theorem dX0_init_13 : decode cX0_init 13 = .ok (.bipush 32, 2) := by decide +kernel
theorem dX0_init_15 : decode cX0_init 15 = .ok (.newarray .int, 2) := by decide +kernel
theorem dX0_init_17 : decode cX0_init 17 = .ok (.putfield 13, 3) := by decide +kernel
theorem dX0_init_20 : decode cX0_init 20 = .ok (.aload_n 0, 1) := by decide +kernel
theorem dX0_init_21 : decode cX0_init 21 = .ok (.bipush 88, 2) := by decide +kernel
theorem dX0_init_23 : decode cX0_init 23 = .ok (.newarray .int, 2) := by decide +kernel
theorem dX0_init_25 : decode cX0_init 25 = .ok (.putfield 16, 3) := by decide +kernel
theorem dX0_init_28 : decode cX0_init 28 = .ok (.aload_n 0, 1) := by decide +kernel
theorem dX0_init_29 : decode cX0_init 29 = .ok (.bipush 60, 2) := by decide +kernel
theorem dX0_init_31 : decode cX0_init 31 = .ok (.newarray .int, 2) := by decide +kernel
theorem dX0_init_33 : decode cX0_init 33 = .ok (.putfield 19, 3) := by decide +kernel
theorem dX0_init_36 : decode cX0_init 36 = .ok (.aload_n 0, 1) := by decide +kernel
theorem dX0_init_37 : decode cX0_init 37 = .ok (.bipush 60, 2) := by decide +kernel
theorem dX0_init_39 : decode cX0_init 39 = .ok (.newarray .int, 2) := by decide +kernel
theorem dX0_init_41 : decode cX0_init 41 = .ok (.putfield 22, 3) := by decide +kernel
theorem dX0_init_44 : decode cX0_init 44 = .ok (.aload_n 0, 1) := by decide +kernel
theorem dX0_init_45 : decode cX0_init 45 = .ok (.bipush 60, 2) := by decide +kernel
theorem dX0_init_47 : decode cX0_init 47 = .ok (.newarray .int, 2) := by decide +kernel
theorem dX0_init_49 : decode cX0_init 49 = .ok (.putfield 25, 3) := by decide +kernel
theorem dX0_init_52 : decode cX0_init 52 = .ok (.return_, 1) := by decide +kernel
set_option maxRecDepth 20000 in
theorem ggX0_format_J7_fill_53178 : GoodIn wsX0_format wsJ7_fill_53178 := goodIn_r _ [9] (by decide +kernel) (by decide +kernel)
set_option maxRecDepth 20000 in
theorem gX0_format_J7_fill_53178 : GoodIn wsX0_format (va_wsS RX0 28 yJ7_fill_53178 wsJ7_fill_53178) := goodIn_app (goodIn_of _ (by decide +kernel)) ggX0_format_J7_fill_53178
set_option maxRecDepth 20000 in
theorem ggX0_format_X0_forgetTransactions : GoodIn wsX0_format wsX0_forgetTransactions := goodIn_r _ [14, 15, 16, 17, 18, 19, 20, 21, 22, 23, 24, 25, 26, 27, 28, 29] (by decide +kernel) (by decide +kernel)
set_option maxRecDepth 20000 in
theorem gX0_format_X0_forgetTransactions : GoodIn wsX0_format (wsV RX0 34 RX0 yX0_forgetTransactions wsX0_forgetTransactions) := goodIn_app (goodIn_of _ (by decide +kernel)) ggX0_format_X0_forgetTransactions
theorem dX0_format_0 : decode cX0_format 0 = .ok (.aload_n 0, 1) := by decide +kernel
theorem dX0_format_1 : decode cX0_format 1 = .ok (.getfield 9, 3) := by decide +kernel
theorem dX0_format_4 : decode cX0_format 4 = .ok (.iconst 0, 1) := by decide +kernel
theorem dX0_format_5 : decode cX0_format 5 = .ok (.invokestatic 28, 3) := by decide +kernel
theorem dX0_format_8 : decode cX0_format 8 = .ok (.aload_n 0, 1) := by decide +kernel
theorem dX0_format_9 : decode cX0_format 9 = .ok (.getfield 13, 3) := by decide +kernel
theorem dX0_format_12 : decode cX0_format 12 = .ok (.iconst 0, 1) := by decide +kernel
theorem dX0_format_13 : decode cX0_format 13 = .ok (.invokestatic 28, 3) := by decide +kernel
theorem dX0_format_16 : decode cX0_format 16 = .ok (.aload_n 0, 1) := by decide +kernel
theorem dX0_format_17 : decode cX0_format 17 = .ok (.invokevirtual 34, 3) := by decide +kernel
theorem dX0_format_20 : decode cX0_format 20 = .ok (.aload_n 0, 1) := by decide +kernel
theorem dX0_format_21 : decode cX0_format 21 = .ok (.iconst 0, 1) := by decide +kernel
theorem dX0_format_22 : decode cX0_format 22 = .ok (.putfield 37, 3) := by decide +kernel
theorem dX0_format_25 : decode cX0_format 25 = .ok (.aload_n 0, 1) := by decide +kernel
theorem dX0_format_26 : decode cX0_format 26 = .ok (.iconst 0, 1) := by decide +kernel
theorem dX0_format_27 : decode cX0_format 27 = .ok (.putfield 41, 3) := by decide +kernel
theorem dX0_format_30 : decode cX0_format 30 = .ok (.aload_n 0, 1) := by decide +kernel
theorem dX0_format_31 : decode cX0_format 31 = .ok (.iconst 0, 1) := by decide +kernel
theorem dX0_format_32 : decode cX0_format 32 = .ok (.putfield 44, 3) := by decide +kernel
theorem dX0_format_35 : decode cX0_format 35 = .ok (.return_, 1) := by decide +kernel
set_option maxRecDepth 20000 in
theorem ggX0_begin_X0_needPower : GoodIn wsX0_begin wsX0_needPower := goodIn_ca (goodIn_r _ [8, 1, 2, 9, 16, 17, 18, 19, 20, 21, 22, 23, 24, 25, 26, 27] (by decide +kernel) (by decide +kernel)) (goodIn_sub (fun _ h => List.mem_cons_of_mem _ (List.mem_append_right _ h)) (by decide +kernel))
set_option maxRecDepth 20000 in
theorem gX0_begin_X0_needPower : GoodIn wsX0_begin (wsV RX0 48 RX0 yX0_needPower wsX0_needPower) := goodIn_app (goodIn_of _ (by decide +kernel)) ggX0_begin_X0_needPower
set_option maxRecDepth 20000 in
theorem ggX0_begin_X0_openLevel : GoodIn wsX0_begin wsX0_openLevel := goodIn_r _ [13, 14, 15, 16, 17, 18, 19, 20, 21, 22, 23, 24, 25, 26, 27] (by decide +kernel) (by decide +kernel)
set_option maxRecDepth 20000 in
theorem gX0_begin_X0_openLevel : GoodIn wsX0_begin (wsV RX0 61 RX0 yX0_openLevel wsX0_openLevel) := goodIn_app (goodIn_of _ (by decide +kernel)) ggX0_begin_X0_openLevel
theorem dX0_begin_0 : decode cX0_begin 0 = .ok (.aload_n 0, 1) := by decide +kernel
theorem dX0_begin_1 : decode cX0_begin 1 = .ok (.invokevirtual 48, 3) := by decide +kernel
theorem dX0_begin_4 : decode cX0_begin 4 = .ok (.aload_n 0, 1) := by decide +kernel
theorem dX0_begin_5 : decode cX0_begin 5 = .ok (.getfield 51, 3) := by decide +kernel
theorem dX0_begin_8 : decode cX0_begin 8 = .ok (.bipush 8, 2) := by decide +kernel
theorem dX0_begin_10 : decode cX0_begin 10 = .ok (.if_icmp .ne 13, 3) := by decide +kernel
theorem dX0_begin_13 : decode cX0_begin 13 = .ok (.new 54, 3) := by decide +kernel
theorem dX0_begin_16 : decode cX0_begin 16 = .ok (.dup, 1) := by decide +kernel
theorem dX0_begin_17 : decode cX0_begin 17 = .ok (.ldc 56, 2) := by decide +kernel
theorem dX0_begin_19 : decode cX0_begin 19 = .ok (.invokespecial 58, 3) := by decide +kernel
theorem dX0_begin_22 : decode cX0_begin 22 = .ok (.athrow, 1) := by decide +kernel
theorem dX0_begin_23 : decode cX0_begin 23 = .ok (.aload_n 0, 1) := by decide +kernel
theorem dX0_begin_24 : decode cX0_begin 24 = .ok (.iconst (-1), 1) := by decide +kernel
theorem dX0_begin_25 : decode cX0_begin 25 = .ok (.invokevirtual 61, 3) := by decide +kernel
theorem dX0_begin_28 : decode cX0_begin 28 = .ok (.aload_n 0, 1) := by decide +kernel
theorem dX0_begin_29 : decode cX0_begin 29 = .ok (.dup, 1) := by decide +kernel
theorem dX0_begin_30 : decode cX0_begin 30 = .ok (.getfield 51, 3) := by decide +kernel
theorem dX0_begin_33 : decode cX0_begin 33 = .ok (.iconst 1, 1) := by decide +kernel
theorem dX0_begin_34 : decode cX0_begin 34 = .ok (.iadd, 1) := by decide +kernel
theorem dX0_begin_35 : decode cX0_begin 35 = .ok (.putfield 51, 3) := by decide +kernel
theorem dX0_begin_38 : decode cX0_begin 38 = .ok (.aload_n 0, 1) := by decide +kernel
theorem dX0_begin_39 : decode cX0_begin 39 = .ok (.getfield 51, 3) := by decide +kernel
theorem dX0_begin_42 : decode cX0_begin 42 = .ok (.ireturn, 1) := by decide +kernel
set_option maxRecDepth 20000 in
theorem ggX0_write_X0_needCell : GoodIn wsX0_write wsX0_needCell := goodIn_ca (goodIn_r _ [10, 11, 12, 13, 14, 9, 15] (by decide +kernel) (by decide +kernel)) (goodIn_sub (fun _ h => List.mem_cons_of_mem _ (List.mem_append_right _ h)) (by decide +kernel))
set_option maxRecDepth 20000 in
theorem gX0_write_X0_needCell : GoodIn wsX0_write (wsV RX0 65 RX0 yX0_needCell wsX0_needCell) := goodIn_app (goodIn_of _ (by decide +kernel)) ggX0_write_X0_needCell
set_option maxRecDepth 20000 in
theorem ggX0_write_X0_needTransaction : GoodIn wsX0_write wsX0_needTransaction := goodIn_ca (goodIn_r _ [19, 1, 2, 20, 21, 22, 23, 9, 24, 25, 40, 41, 42, 43, 44, 45, 46, 47, 48, 49, 50, 51] (by decide +kernel) (by decide +kernel)) (goodIn_sub (fun _ h => List.mem_cons_of_mem _ (List.mem_append_left _ (List.mem_append_right _ h))) (by decide +kernel))
set_option maxRecDepth 20000 in
theorem gX0_write_X0_needTransaction : GoodIn wsX0_write (wsV RX0 68 RX0 yX0_needTransaction wsX0_needTransaction) := goodIn_app (goodIn_of _ (by decide +kernel)) ggX0_write_X0_needTransaction
set_option maxRecDepth 20000 in
theorem ggX0_write_X0_tracedCells : GoodIn wsX0_write wsX0_tracedCells := goodIn_r _ [29, 4, 30, 31, 40, 41, 42, 43, 44, 45, 46, 47, 48, 49, 50, 51] (by decide +kernel) (by decide +kernel)
set_option maxRecDepth 20000 in
theorem gX0_write_X0_tracedCells : GoodIn wsX0_write (wsV RX0 74 RX0 yX0_tracedCells wsX0_tracedCells) := goodIn_app (goodIn_of _ (by decide +kernel)) ggX0_write_X0_tracedCells
set_option maxRecDepth 20000 in
theorem ggX0_write_X0_holds : GoodIn wsX0_write wsX0_holds := goodIn_r _ [34] (by decide +kernel) (by decide +kernel)
set_option maxRecDepth 20000 in
theorem gX0_write_X0_holds : GoodIn wsX0_write (va_wsS RX0 78 yX0_holds wsX0_holds) := goodIn_app (goodIn_of _ (by decide +kernel)) ggX0_write_X0_holds
set_option maxRecDepth 20000 in
theorem ggX0_write_X0_leaveTrace : GoodIn wsX0_write wsX0_leaveTrace := goodIn_r _ [38, 30, 4, 31, 39, 5, 40, 41, 42, 43, 44, 45, 46, 47, 48, 49, 50, 51] (by decide +kernel) (by decide +kernel)
set_option maxRecDepth 20000 in
theorem gX0_write_X0_leaveTrace : GoodIn wsX0_write (wsV RX0 87 RX0 yX0_leaveTrace wsX0_leaveTrace) := goodIn_app (goodIn_of _ (by decide +kernel)) ggX0_write_X0_leaveTrace
theorem dX0_write_0 : decode cX0_write 0 = .ok (.aload_n 0, 1) := by decide +kernel
theorem dX0_write_1 : decode cX0_write 1 = .ok (.iload_n 1, 1) := by decide +kernel
theorem dX0_write_2 : decode cX0_write 2 = .ok (.invokevirtual 65, 3) := by decide +kernel
theorem dX0_write_5 : decode cX0_write 5 = .ok (.aload_n 0, 1) := by decide +kernel
theorem dX0_write_6 : decode cX0_write 6 = .ok (.invokevirtual 68, 3) := by decide +kernel
theorem dX0_write_9 : decode cX0_write 9 = .ok (.aload_n 0, 1) := by decide +kernel
theorem dX0_write_10 : decode cX0_write 10 = .ok (.getfield 71, 3) := by decide +kernel
theorem dX0_write_13 : decode cX0_write 13 = .ok (.iconst 1, 1) := by decide +kernel
theorem dX0_write_14 : decode cX0_write 14 = .ok (.isub, 1) := by decide +kernel
theorem dX0_write_15 : decode cX0_write 15 = .ok (.istore_n 3, 1) := by decide +kernel
theorem dX0_write_16 : decode cX0_write 16 = .ok (.aload_n 0, 1) := by decide +kernel
theorem dX0_write_17 : decode cX0_write 17 = .ok (.iload_n 3, 1) := by decide +kernel
theorem dX0_write_18 : decode cX0_write 18 = .ok (.invokevirtual 74, 3) := by decide +kernel
theorem dX0_write_21 : decode cX0_write 21 = .ok (.iload_n 1, 1) := by decide +kernel
theorem dX0_write_22 : decode cX0_write 22 = .ok (.invokestatic 78, 3) := by decide +kernel
theorem dX0_write_25 : decode cX0_write 25 = .ok (.ifCond .ne 28, 3) := by decide +kernel
theorem dX0_write_28 : decode cX0_write 28 = .ok (.aload_n 0, 1) := by decide +kernel
theorem dX0_write_29 : decode cX0_write 29 = .ok (.getfield 82, 3) := by decide +kernel
theorem dX0_write_32 : decode cX0_write 32 = .ok (.bipush 60, 2) := by decide +kernel
theorem dX0_write_34 : decode cX0_write 34 = .ok (.if_icmp .ne 13, 3) := by decide +kernel
theorem dX0_write_37 : decode cX0_write 37 = .ok (.new 54, 3) := by decide +kernel
theorem dX0_write_40 : decode cX0_write 40 = .ok (.dup, 1) := by decide +kernel
theorem dX0_write_41 : decode cX0_write 41 = .ok (.ldc 85, 2) := by decide +kernel
theorem dX0_write_43 : decode cX0_write 43 = .ok (.invokespecial 58, 3) := by decide +kernel
theorem dX0_write_46 : decode cX0_write 46 = .ok (.athrow, 1) := by decide +kernel
theorem dX0_write_47 : decode cX0_write 47 = .ok (.aload_n 0, 1) := by decide +kernel
theorem dX0_write_48 : decode cX0_write 48 = .ok (.iload_n 3, 1) := by decide +kernel
theorem dX0_write_49 : decode cX0_write 49 = .ok (.iload_n 1, 1) := by decide +kernel
theorem dX0_write_50 : decode cX0_write 50 = .ok (.invokevirtual 87, 3) := by decide +kernel
theorem dX0_write_53 : decode cX0_write 53 = .ok (.aload_n 0, 1) := by decide +kernel
theorem dX0_write_54 : decode cX0_write 54 = .ok (.getfield 13, 3) := by decide +kernel
theorem dX0_write_57 : decode cX0_write 57 = .ok (.iload_n 1, 1) := by decide +kernel
theorem dX0_write_58 : decode cX0_write 58 = .ok (.iaload, 1) := by decide +kernel
theorem dX0_write_59 : decode cX0_write 59 = .ok (.istore 4, 2) := by decide +kernel
theorem dX0_write_61 : decode cX0_write 61 = .ok (.aload_n 0, 1) := by decide +kernel
theorem dX0_write_62 : decode cX0_write 62 = .ok (.getfield 13, 3) := by decide +kernel
theorem dX0_write_65 : decode cX0_write 65 = .ok (.iload_n 1, 1) := by decide +kernel
theorem dX0_write_66 : decode cX0_write 66 = .ok (.iload_n 2, 1) := by decide +kernel
theorem dX0_write_67 : decode cX0_write 67 = .ok (.iastore, 1) := by decide +kernel
theorem dX0_write_68 : decode cX0_write 68 = .ok (.iload 4, 2) := by decide +kernel
theorem dX0_write_70 : decode cX0_write 70 = .ok (.ireturn, 1) := by decide +kernel
set_option maxRecDepth 20000 in
theorem ggX0_read_X0_needCell : GoodIn wsX0_read wsX0_needCell := goodIn_ca (goodIn_r _ [6, 7, 8, 9, 10, 5, 11] (by decide +kernel) (by decide +kernel)) (goodIn_sub (fun _ h => List.mem_cons_of_mem _ (List.mem_append_left _ (List.mem_append_right _ h))) (by decide +kernel))
set_option maxRecDepth 20000 in
theorem gX0_read_X0_needCell : GoodIn wsX0_read (wsV RX0 65 RX0 yX0_needCell wsX0_needCell) := goodIn_app (goodIn_of _ (by decide +kernel)) ggX0_read_X0_needCell
set_option maxRecDepth 20000 in
theorem ggX0_read_X0_needPower : GoodIn wsX0_read wsX0_needPower := goodIn_ca (goodIn_r _ [15, 16, 17, 18, 19, 20, 21, 22, 23, 24, 25, 26, 27, 28, 29, 30] (by decide +kernel) (by decide +kernel)) (goodIn_sub (fun _ h => List.mem_cons_of_mem _ (List.mem_append_right _ h)) (by decide +kernel))
set_option maxRecDepth 20000 in
theorem gX0_read_X0_needPower : GoodIn wsX0_read (wsV RX0 48 RX0 yX0_needPower wsX0_needPower) := goodIn_app (goodIn_of _ (by decide +kernel)) ggX0_read_X0_needPower
theorem dX0_read_0 : decode cX0_read 0 = .ok (.aload_n 0, 1) := by decide +kernel
theorem dX0_read_1 : decode cX0_read 1 = .ok (.iload_n 1, 1) := by decide +kernel
theorem dX0_read_2 : decode cX0_read 2 = .ok (.invokevirtual 65, 3) := by decide +kernel
theorem dX0_read_5 : decode cX0_read 5 = .ok (.aload_n 0, 1) := by decide +kernel
theorem dX0_read_6 : decode cX0_read 6 = .ok (.invokevirtual 48, 3) := by decide +kernel
theorem dX0_read_9 : decode cX0_read 9 = .ok (.aload_n 0, 1) := by decide +kernel
theorem dX0_read_10 : decode cX0_read 10 = .ok (.getfield 13, 3) := by decide +kernel
theorem dX0_read_13 : decode cX0_read 13 = .ok (.iload_n 1, 1) := by decide +kernel
theorem dX0_read_14 : decode cX0_read 14 = .ok (.iaload, 1) := by decide +kernel
theorem dX0_read_15 : decode cX0_read 15 = .ok (.ireturn, 1) := by decide +kernel
set_option maxRecDepth 20000 in
theorem ggX0_commit_X0_needTransaction : GoodIn wsX0_commit wsX0_needTransaction := goodIn_ca (goodIn_r _ [8, 9, 10, 2, 11, 12, 13, 7, 14, 3, 66, 67, 68, 69, 70, 71, 72, 73, 74, 75, 76, 77] (by decide +kernel) (by decide +kernel)) (goodIn_sub (fun _ h => List.mem_cons_of_mem _ (List.mem_append_right _ h)) (by decide +kernel))
set_option maxRecDepth 20000 in
theorem gX0_commit_X0_needTransaction : GoodIn wsX0_commit (wsV RX0 68 RX0 yX0_needTransaction wsX0_needTransaction) := goodIn_app (goodIn_of _ (by decide +kernel)) ggX0_commit_X0_needTransaction
set_option maxRecDepth 20000 in
theorem ggX0_commit_X0_innermostLevel : GoodIn wsX0_commit wsX0_innermostLevel := goodIn_r _ [18, 1, 19, 66, 67, 68, 69, 70, 71, 72, 73, 74, 75, 76, 77] (by decide +kernel) (by decide +kernel)
set_option maxRecDepth 20000 in
theorem gX0_commit_X0_innermostLevel : GoodIn wsX0_commit (wsV RX0 91 RX0 yX0_innermostLevel wsX0_innermostLevel) := goodIn_app (goodIn_of _ (by decide +kernel)) ggX0_commit_X0_innermostLevel
set_option maxRecDepth 20000 in
theorem ggX0_commit_X0_foldLevel : GoodIn wsX0_commit wsX0_foldLevel := goodIn_r _ [23, 24, 25, 26, 27, 1, 19, 28, 29, 30, 7, 31, 32, 33, 34, 66, 67, 68, 69, 70, 71, 72, 73, 74, 75, 76, 77] (by decide +kernel) (by decide +kernel)
set_option maxRecDepth 20000 in
theorem gX0_commit_X0_foldLevel : GoodIn wsX0_commit (wsV RX0 95 RX0 yX0_foldLevel wsX0_foldLevel) := goodIn_app (goodIn_of _ (by decide +kernel)) ggX0_commit_X0_foldLevel
set_option maxRecDepth 20000 in
theorem ggX0_commit_X0_keepOnDisk : GoodIn wsX0_commit wsX0_keepOnDisk := goodIn_r _ [38, 39, 28, 29, 30, 7, 31, 24, 25, 26, 40, 41, 42, 43, 44, 45, 46, 47, 48, 49, 50, 51, 32, 33, 34, 52, 53, 54, 55, 3, 56, 57, 58, 59, 60, 61, 66, 67, 68, 69, 70, 71, 72, 73, 74, 75, 76, 77] (by decide +kernel) (by decide +kernel)
set_option maxRecDepth 20000 in
theorem gX0_commit_X0_keepOnDisk : GoodIn wsX0_commit (wsV RX0 98 RX0 yX0_keepOnDisk wsX0_keepOnDisk) := goodIn_app (goodIn_of _ (by decide +kernel)) ggX0_commit_X0_keepOnDisk
set_option maxRecDepth 20000 in
theorem ggX0_commit_X0_forgetTransactions : GoodIn wsX0_commit wsX0_forgetTransactions := goodIn_r _ [65, 2, 1, 24, 66, 67, 68, 69, 70, 71, 72, 73, 74, 75, 76, 77] (by decide +kernel) (by decide +kernel)
set_option maxRecDepth 20000 in
theorem gX0_commit_X0_forgetTransactions : GoodIn wsX0_commit (wsV RX0 34 RX0 yX0_forgetTransactions wsX0_forgetTransactions) := goodIn_app (goodIn_of _ (by decide +kernel)) ggX0_commit_X0_forgetTransactions
theorem dX0_commit_0 : decode cX0_commit 0 = .ok (.aload_n 0, 1) := by decide +kernel
theorem dX0_commit_1 : decode cX0_commit 1 = .ok (.invokevirtual 68, 3) := by decide +kernel
theorem dX0_commit_4 : decode cX0_commit 4 = .ok (.aload_n 0, 1) := by decide +kernel
theorem dX0_commit_5 : decode cX0_commit 5 = .ok (.invokevirtual 91, 3) := by decide +kernel
theorem dX0_commit_8 : decode cX0_commit 8 = .ok (.istore_n 1, 1) := by decide +kernel
theorem dX0_commit_9 : decode cX0_commit 9 = .ok (.aload_n 0, 1) := by decide +kernel
theorem dX0_commit_10 : decode cX0_commit 10 = .ok (.getfield 71, 3) := by decide +kernel
theorem dX0_commit_13 : decode cX0_commit 13 = .ok (.iconst 1, 1) := by decide +kernel
theorem dX0_commit_14 : decode cX0_commit 14 = .ok (.isub, 1) := by decide +kernel
theorem dX0_commit_15 : decode cX0_commit 15 = .ok (.istore_n 2, 1) := by decide +kernel
theorem dX0_commit_16 : decode cX0_commit 16 = .ok (.iload_n 2, 1) := by decide +kernel
theorem dX0_commit_17 : decode cX0_commit 17 = .ok (.iload_n 1, 1) := by decide +kernel
theorem dX0_commit_18 : decode cX0_commit 18 = .ok (.if_icmp .le 14, 3) := by decide +kernel
theorem dX0_commit_21 : decode cX0_commit 21 = .ok (.aload_n 0, 1) := by decide +kernel
theorem dX0_commit_22 : decode cX0_commit 22 = .ok (.iload_n 2, 1) := by decide +kernel
theorem dX0_commit_23 : decode cX0_commit 23 = .ok (.invokevirtual 95, 3) := by decide +kernel
theorem dX0_commit_26 : decode cX0_commit 26 = .ok (.iinc 2 (-1), 3) := by decide +kernel
theorem dX0_commit_29 : decode cX0_commit 29 = .ok (.goto (-13), 3) := by decide +kernel
theorem dX0_commit_32 : decode cX0_commit 32 = .ok (.aload_n 0, 1) := by decide +kernel
theorem dX0_commit_33 : decode cX0_commit 33 = .ok (.getfield 51, 3) := by decide +kernel
theorem dX0_commit_36 : decode cX0_commit 36 = .ok (.iconst 1, 1) := by decide +kernel
theorem dX0_commit_37 : decode cX0_commit 37 = .ok (.if_icmp .le 23, 3) := by decide +kernel
theorem dX0_commit_40 : decode cX0_commit 40 = .ok (.aload_n 0, 1) := by decide +kernel
theorem dX0_commit_41 : decode cX0_commit 41 = .ok (.iload_n 1, 1) := by decide +kernel
theorem dX0_commit_42 : decode cX0_commit 42 = .ok (.invokevirtual 95, 3) := by decide +kernel
theorem dX0_commit_45 : decode cX0_commit 45 = .ok (.aload_n 0, 1) := by decide +kernel
theorem dX0_commit_46 : decode cX0_commit 46 = .ok (.dup, 1) := by decide +kernel
theorem dX0_commit_47 : decode cX0_commit 47 = .ok (.getfield 51, 3) := by decide +kernel
theorem dX0_commit_50 : decode cX0_commit 50 = .ok (.iconst 1, 1) := by decide +kernel
theorem dX0_commit_51 : decode cX0_commit 51 = .ok (.isub, 1) := by decide +kernel
theorem dX0_commit_52 : decode cX0_commit 52 = .ok (.putfield 51, 3) := by decide +kernel
theorem dX0_commit_55 : decode cX0_commit 55 = .ok (.aload_n 0, 1) := by decide +kernel
theorem dX0_commit_56 : decode cX0_commit 56 = .ok (.getfield 51, 3) := by decide +kernel
theorem dX0_commit_59 : decode cX0_commit 59 = .ok (.ireturn, 1) := by decide +kernel
theorem dX0_commit_60 : decode cX0_commit 60 = .ok (.aload_n 0, 1) := by decide +kernel
theorem dX0_commit_61 : decode cX0_commit 61 = .ok (.invokevirtual 98, 3) := by decide +kernel
theorem dX0_commit_64 : decode cX0_commit 64 = .ok (.aload_n 0, 1) := by decide +kernel
theorem dX0_commit_65 : decode cX0_commit 65 = .ok (.invokevirtual 34, 3) := by decide +kernel
theorem dX0_commit_68 : decode cX0_commit 68 = .ok (.aload_n 0, 1) := by decide +kernel
theorem dX0_commit_69 : decode cX0_commit 69 = .ok (.getfield 44, 3) := by decide +kernel
theorem dX0_commit_72 : decode cX0_commit 72 = .ok (.ifCond .eq 7, 3) := by decide +kernel
theorem dX0_commit_75 : decode cX0_commit 75 = .ok (.iconst (-1), 1) := by decide +kernel
theorem dX0_commit_76 : decode cX0_commit 76 = .ok (.goto 4, 3) := by decide +kernel
theorem dX0_commit_79 : decode cX0_commit 79 = .ok (.iconst 0, 1) := by decide +kernel
theorem dX0_commit_80 : decode cX0_commit 80 = .ok (.ireturn, 1) := by decide +kernel
set_option maxRecDepth 20000 in
theorem ggX0_abort_X0_needTransaction : GoodIn wsX0_abort wsX0_needTransaction := goodIn_ca (goodIn_r _ [6, 7, 8, 1, 9, 10, 11, 5, 12, 13, 29, 30, 31, 32, 33, 34, 35, 36, 37, 38, 39, 40] (by decide +kernel) (by decide +kernel)) (goodIn_sub (fun _ h => List.mem_cons_of_mem _ (List.mem_append_right _ h)) (by decide +kernel))
set_option maxRecDepth 20000 in
theorem gX0_abort_X0_needTransaction : GoodIn wsX0_abort (wsV RX0 68 RX0 yX0_needTransaction wsX0_needTransaction) := goodIn_app (goodIn_of _ (by decide +kernel)) ggX0_abort_X0_needTransaction
set_option maxRecDepth 20000 in
theorem ggX0_abort_X0_innermostLevel : GoodIn wsX0_abort wsX0_innermostLevel := goodIn_r _ [17, 18, 19, 29, 30, 31, 32, 33, 34, 35, 36, 37, 38, 39, 40] (by decide +kernel) (by decide +kernel)
set_option maxRecDepth 20000 in
theorem gX0_abort_X0_innermostLevel : GoodIn wsX0_abort (wsV RX0 91 RX0 yX0_innermostLevel wsX0_innermostLevel) := goodIn_app (goodIn_of _ (by decide +kernel)) ggX0_abort_X0_innermostLevel
set_option maxRecDepth 20000 in
theorem ggX0_abort_X0_goBack : GoodIn wsX0_abort wsX0_goBack := goodIn_r _ [23, 24, 25, 26, 27, 28, 18, 29, 30, 31, 32, 33, 34, 35, 36, 37, 38, 39, 40] (by decide +kernel) (by decide +kernel)
set_option maxRecDepth 20000 in
theorem gX0_abort_X0_goBack : GoodIn wsX0_abort (wsV RX0 101 RX0 yX0_goBack wsX0_goBack) := goodIn_app (goodIn_of _ (by decide +kernel)) ggX0_abort_X0_goBack
theorem dX0_abort_0 : decode cX0_abort 0 = .ok (.aload_n 0, 1) := by decide +kernel
theorem dX0_abort_1 : decode cX0_abort 1 = .ok (.invokevirtual 68, 3) := by decide +kernel
theorem dX0_abort_4 : decode cX0_abort 4 = .ok (.aload_n 0, 1) := by decide +kernel
theorem dX0_abort_5 : decode cX0_abort 5 = .ok (.aload_n 0, 1) := by decide +kernel
theorem dX0_abort_6 : decode cX0_abort 6 = .ok (.invokevirtual 91, 3) := by decide +kernel
theorem dX0_abort_9 : decode cX0_abort 9 = .ok (.invokevirtual 101, 3) := by decide +kernel
theorem dX0_abort_12 : decode cX0_abort 12 = .ok (.istore_n 1, 1) := by decide +kernel
theorem dX0_abort_13 : decode cX0_abort 13 = .ok (.aload_n 0, 1) := by decide +kernel
theorem dX0_abort_14 : decode cX0_abort 14 = .ok (.dup, 1) := by decide +kernel
theorem dX0_abort_15 : decode cX0_abort 15 = .ok (.getfield 51, 3) := by decide +kernel
theorem dX0_abort_18 : decode cX0_abort 18 = .ok (.iconst 1, 1) := by decide +kernel
theorem dX0_abort_19 : decode cX0_abort 19 = .ok (.isub, 1) := by decide +kernel
theorem dX0_abort_20 : decode cX0_abort 20 = .ok (.putfield 51, 3) := by decide +kernel
theorem dX0_abort_23 : decode cX0_abort 23 = .ok (.iload_n 1, 1) := by decide +kernel
theorem dX0_abort_24 : decode cX0_abort 24 = .ok (.ireturn, 1) := by decide +kernel
set_option maxRecDepth 20000 in
theorem ggX0_point_X0_needName : GoodIn wsX0_point wsX0_needName := goodIn_ca (goodIn_r _ [5, 6, 7] (by decide +kernel) (by decide +kernel)) (goodIn_sub (fun _ h => List.mem_cons_of_mem _ (List.mem_append_left _ (List.mem_append_right _ h))) (by decide +kernel))
set_option maxRecDepth 20000 in
theorem gX0_point_X0_needName : GoodIn wsX0_point (wsV RX0 104 RX0 yX0_needName wsX0_needName) := goodIn_app (goodIn_of _ (by decide +kernel)) ggX0_point_X0_needName
set_option maxRecDepth 20000 in
theorem ggX0_point_X0_needTransaction : GoodIn wsX0_point wsX0_needTransaction := goodIn_ca (goodIn_r _ [11, 12, 13, 14, 15, 16, 17, 4, 18, 19, 53, 54, 55, 56, 57, 58, 59, 60, 61, 62, 63, 64] (by decide +kernel) (by decide +kernel)) (goodIn_sub (fun _ h => List.mem_cons_of_mem _ (List.mem_append_right _ h)) (by decide +kernel))
set_option maxRecDepth 20000 in
theorem gX0_point_X0_needTransaction : GoodIn wsX0_point (wsV RX0 68 RX0 yX0_needTransaction wsX0_needTransaction) := goodIn_app (goodIn_of _ (by decide +kernel)) ggX0_point_X0_needTransaction
set_option maxRecDepth 20000 in
theorem ggX0_point_X0_pointLevel : GoodIn wsX0_point wsX0_pointLevel := goodIn_r _ [23, 24, 25, 26, 27, 28, 4, 29, 53, 54, 55, 56, 57, 58, 59, 60, 61, 62, 63, 64] (by decide +kernel) (by decide +kernel)
set_option maxRecDepth 20000 in
theorem gX0_point_X0_pointLevel : GoodIn wsX0_point (wsV RX0 107 RX0 yX0_pointLevel wsX0_pointLevel) := goodIn_app (goodIn_of _ (by decide +kernel)) ggX0_point_X0_pointLevel
set_option maxRecDepth 20000 in
theorem ggX0_point_X0_foldLevel : GoodIn wsX0_point wsX0_foldLevel := goodIn_r _ [33, 34, 35, 36, 37, 24, 25, 38, 39, 40, 4, 41, 42, 43, 44, 53, 54, 55, 56, 57, 58, 59, 60, 61, 62, 63, 64] (by decide +kernel) (by decide +kernel)
set_option maxRecDepth 20000 in
theorem gX0_point_X0_foldLevel : GoodIn wsX0_point (wsV RX0 95 RX0 yX0_foldLevel wsX0_foldLevel) := goodIn_app (goodIn_of _ (by decide +kernel)) ggX0_point_X0_foldLevel
set_option maxRecDepth 20000 in
theorem ggX0_point_X0_openLevel : GoodIn wsX0_point wsX0_openLevel := goodIn_r _ [48, 25, 24, 53, 54, 55, 56, 57, 58, 59, 60, 61, 62, 63, 64] (by decide +kernel) (by decide +kernel)
set_option maxRecDepth 20000 in
theorem gX0_point_X0_openLevel : GoodIn wsX0_point (wsV RX0 61 RX0 yX0_openLevel wsX0_openLevel) := goodIn_app (goodIn_of _ (by decide +kernel)) ggX0_point_X0_openLevel
set_option maxRecDepth 20000 in
theorem ggX0_point_X0_points : GoodIn wsX0_point wsX0_points := goodIn_r _ [52, 24, 26, 27, 28, 4, 29, 25, 53, 54, 55, 56, 57, 58, 59, 60, 61, 62, 63, 64] (by decide +kernel) (by decide +kernel)
set_option maxRecDepth 20000 in
theorem gX0_point_X0_points : GoodIn wsX0_point (wsV RX0 110 RX0 yX0_points wsX0_points) := goodIn_app (goodIn_of _ (by decide +kernel)) ggX0_point_X0_points
theorem dX0_point_0 : decode cX0_point 0 = .ok (.aload_n 0, 1) := by decide +kernel
theorem dX0_point_1 : decode cX0_point 1 = .ok (.iload_n 1, 1) := by decide +kernel
theorem dX0_point_2 : decode cX0_point 2 = .ok (.invokevirtual 104, 3) := by decide +kernel
theorem dX0_point_5 : decode cX0_point 5 = .ok (.aload_n 0, 1) := by decide +kernel
theorem dX0_point_6 : decode cX0_point 6 = .ok (.invokevirtual 68, 3) := by decide +kernel
theorem dX0_point_9 : decode cX0_point 9 = .ok (.aload_n 0, 1) := by decide +kernel
theorem dX0_point_10 : decode cX0_point 10 = .ok (.iload_n 1, 1) := by decide +kernel
theorem dX0_point_11 : decode cX0_point 11 = .ok (.invokevirtual 107, 3) := by decide +kernel
theorem dX0_point_14 : decode cX0_point 14 = .ok (.istore_n 2, 1) := by decide +kernel
theorem dX0_point_15 : decode cX0_point 15 = .ok (.iload_n 2, 1) := by decide +kernel
theorem dX0_point_16 : decode cX0_point 16 = .ok (.iconst (-1), 1) := by decide +kernel
theorem dX0_point_17 : decode cX0_point 17 = .ok (.if_icmp .eq 8, 3) := by decide +kernel
theorem dX0_point_20 : decode cX0_point 20 = .ok (.aload_n 0, 1) := by decide +kernel
theorem dX0_point_21 : decode cX0_point 21 = .ok (.iload_n 2, 1) := by decide +kernel
theorem dX0_point_22 : decode cX0_point 22 = .ok (.invokevirtual 95, 3) := by decide +kernel
theorem dX0_point_25 : decode cX0_point 25 = .ok (.aload_n 0, 1) := by decide +kernel
theorem dX0_point_26 : decode cX0_point 26 = .ok (.iload_n 1, 1) := by decide +kernel
theorem dX0_point_27 : decode cX0_point 27 = .ok (.invokevirtual 61, 3) := by decide +kernel
theorem dX0_point_30 : decode cX0_point 30 = .ok (.aload_n 0, 1) := by decide +kernel
theorem dX0_point_31 : decode cX0_point 31 = .ok (.invokevirtual 110, 3) := by decide +kernel
theorem dX0_point_34 : decode cX0_point 34 = .ok (.ireturn, 1) := by decide +kernel
set_option maxRecDepth 20000 in
theorem ggX0_back_X0_needName : GoodIn wsX0_back wsX0_needName := goodIn_ca (goodIn_r _ [5, 6, 7] (by decide +kernel) (by decide +kernel)) (goodIn_sub (fun _ h => List.mem_cons_of_mem _ (List.mem_append_left _ (List.mem_append_right _ h))) (by decide +kernel))
set_option maxRecDepth 20000 in
theorem gX0_back_X0_needName : GoodIn wsX0_back (wsV RX0 104 RX0 yX0_needName wsX0_needName) := goodIn_app (goodIn_of _ (by decide +kernel)) ggX0_back_X0_needName
set_option maxRecDepth 20000 in
theorem ggX0_back_X0_needTransaction : GoodIn wsX0_back wsX0_needTransaction := goodIn_ca (goodIn_r _ [11, 12, 13, 14, 15, 16, 17, 4, 18, 19, 47, 48, 49, 50, 51, 52, 53, 54, 55, 56, 57, 58] (by decide +kernel) (by decide +kernel)) (goodIn_sub (fun _ h => List.mem_cons_of_mem _ (List.mem_append_right _ h)) (by decide +kernel))
set_option maxRecDepth 20000 in
theorem gX0_back_X0_needTransaction : GoodIn wsX0_back (wsV RX0 68 RX0 yX0_needTransaction wsX0_needTransaction) := goodIn_app (goodIn_of _ (by decide +kernel)) ggX0_back_X0_needTransaction
set_option maxRecDepth 20000 in
theorem ggX0_back_X0_needPoint : GoodIn wsX0_back wsX0_needPoint := goodIn_ca (goodIn_r _ [23, 6, 7, 24, 25, 26, 4, 27, 28, 29, 30, 31, 32, 33, 47, 48, 49, 50, 51, 52, 53, 54, 55, 56, 57, 58] (by decide +kernel) (by decide +kernel)) (goodIn_sub (fun _ h => List.mem_cons_of_mem _ (List.mem_append_left _ (List.mem_append_right _ h))) (by decide +kernel))
set_option maxRecDepth 20000 in
theorem gX0_back_X0_needPoint : GoodIn wsX0_back (wsV RX0 113 RX0 yX0_needPoint wsX0_needPoint) := goodIn_app (goodIn_of _ (by decide +kernel)) ggX0_back_X0_needPoint
set_option maxRecDepth 20000 in
theorem ggX0_back_X0_goBack : GoodIn wsX0_back wsX0_goBack := goodIn_r _ [37, 38, 39, 40, 41, 42, 28, 47, 48, 49, 50, 51, 52, 53, 54, 55, 56, 57, 58] (by decide +kernel) (by decide +kernel)
set_option maxRecDepth 20000 in
theorem gX0_back_X0_goBack : GoodIn wsX0_back (wsV RX0 101 RX0 yX0_goBack wsX0_goBack) := goodIn_app (goodIn_of _ (by decide +kernel)) ggX0_back_X0_goBack
set_option maxRecDepth 20000 in
theorem ggX0_back_X0_openLevel : GoodIn wsX0_back wsX0_openLevel := goodIn_r _ [46, 29, 28, 47, 48, 49, 50, 51, 52, 53, 54, 55, 56, 57, 58] (by decide +kernel) (by decide +kernel)
set_option maxRecDepth 20000 in
theorem gX0_back_X0_openLevel : GoodIn wsX0_back (wsV RX0 61 RX0 yX0_openLevel wsX0_openLevel) := goodIn_app (goodIn_of _ (by decide +kernel)) ggX0_back_X0_openLevel
theorem dX0_back_0 : decode cX0_back 0 = .ok (.aload_n 0, 1) := by decide +kernel
theorem dX0_back_1 : decode cX0_back 1 = .ok (.iload_n 1, 1) := by decide +kernel
theorem dX0_back_2 : decode cX0_back 2 = .ok (.invokevirtual 104, 3) := by decide +kernel
theorem dX0_back_5 : decode cX0_back 5 = .ok (.aload_n 0, 1) := by decide +kernel
theorem dX0_back_6 : decode cX0_back 6 = .ok (.invokevirtual 68, 3) := by decide +kernel
theorem dX0_back_9 : decode cX0_back 9 = .ok (.aload_n 0, 1) := by decide +kernel
theorem dX0_back_10 : decode cX0_back 10 = .ok (.aload_n 0, 1) := by decide +kernel
theorem dX0_back_11 : decode cX0_back 11 = .ok (.iload_n 1, 1) := by decide +kernel
theorem dX0_back_12 : decode cX0_back 12 = .ok (.invokevirtual 113, 3) := by decide +kernel
theorem dX0_back_15 : decode cX0_back 15 = .ok (.invokevirtual 101, 3) := by decide +kernel
theorem dX0_back_18 : decode cX0_back 18 = .ok (.istore_n 2, 1) := by decide +kernel
theorem dX0_back_19 : decode cX0_back 19 = .ok (.aload_n 0, 1) := by decide +kernel
theorem dX0_back_20 : decode cX0_back 20 = .ok (.iload_n 1, 1) := by decide +kernel
theorem dX0_back_21 : decode cX0_back 21 = .ok (.invokevirtual 61, 3) := by decide +kernel
theorem dX0_back_24 : decode cX0_back 24 = .ok (.iload_n 2, 1) := by decide +kernel
theorem dX0_back_25 : decode cX0_back 25 = .ok (.ireturn, 1) := by decide +kernel
set_option maxRecDepth 20000 in
theorem ggX0_release_X0_needName : GoodIn wsX0_release wsX0_needName := goodIn_ca (goodIn_r _ [5, 6, 7] (by decide +kernel) (by decide +kernel)) (goodIn_sub (fun _ h => List.mem_cons_of_mem _ (List.mem_append_left _ (List.mem_append_right _ h))) (by decide +kernel))
set_option maxRecDepth 20000 in
theorem gX0_release_X0_needName : GoodIn wsX0_release (wsV RX0 104 RX0 yX0_needName wsX0_needName) := goodIn_app (goodIn_of _ (by decide +kernel)) ggX0_release_X0_needName
set_option maxRecDepth 20000 in
theorem ggX0_release_X0_needTransaction : GoodIn wsX0_release wsX0_needTransaction := goodIn_ca (goodIn_r _ [11, 12, 13, 14, 15, 16, 17, 4, 18, 19, 53, 54, 55, 56, 57, 58, 59, 60, 61, 62, 63, 64] (by decide +kernel) (by decide +kernel)) (goodIn_sub (fun _ h => List.mem_cons_of_mem _ (List.mem_append_right _ h)) (by decide +kernel))
set_option maxRecDepth 20000 in
theorem gX0_release_X0_needTransaction : GoodIn wsX0_release (wsV RX0 68 RX0 yX0_needTransaction wsX0_needTransaction) := goodIn_app (goodIn_of _ (by decide +kernel)) ggX0_release_X0_needTransaction
set_option maxRecDepth 20000 in
theorem ggX0_release_X0_needPoint : GoodIn wsX0_release wsX0_needPoint := goodIn_ca (goodIn_r _ [23, 6, 7, 24, 25, 26, 4, 27, 28, 29, 30, 31, 32, 33, 53, 54, 55, 56, 57, 58, 59, 60, 61, 62, 63, 64] (by decide +kernel) (by decide +kernel)) (goodIn_sub (fun _ h => List.mem_cons_of_mem _ (List.mem_append_left _ (List.mem_append_right _ h))) (by decide +kernel))
set_option maxRecDepth 20000 in
theorem gX0_release_X0_needPoint : GoodIn wsX0_release (wsV RX0 113 RX0 yX0_needPoint wsX0_needPoint) := goodIn_app (goodIn_of _ (by decide +kernel)) ggX0_release_X0_needPoint
set_option maxRecDepth 20000 in
theorem ggX0_release_X0_foldLevel : GoodIn wsX0_release wsX0_foldLevel := goodIn_r _ [37, 38, 39, 40, 41, 28, 29, 42, 43, 44, 4, 45, 46, 47, 48, 53, 54, 55, 56, 57, 58, 59, 60, 61, 62, 63, 64] (by decide +kernel) (by decide +kernel)
set_option maxRecDepth 20000 in
theorem gX0_release_X0_foldLevel : GoodIn wsX0_release (wsV RX0 95 RX0 yX0_foldLevel wsX0_foldLevel) := goodIn_app (goodIn_of _ (by decide +kernel)) ggX0_release_X0_foldLevel
set_option maxRecDepth 20000 in
theorem ggX0_release_X0_points : GoodIn wsX0_release wsX0_points := goodIn_r _ [52, 28, 30, 31, 32, 4, 33, 29, 53, 54, 55, 56, 57, 58, 59, 60, 61, 62, 63, 64] (by decide +kernel) (by decide +kernel)
set_option maxRecDepth 20000 in
theorem gX0_release_X0_points : GoodIn wsX0_release (wsV RX0 110 RX0 yX0_points wsX0_points) := goodIn_app (goodIn_of _ (by decide +kernel)) ggX0_release_X0_points
theorem dX0_release_0 : decode cX0_release 0 = .ok (.aload_n 0, 1) := by decide +kernel
theorem dX0_release_1 : decode cX0_release 1 = .ok (.iload_n 1, 1) := by decide +kernel
theorem dX0_release_2 : decode cX0_release 2 = .ok (.invokevirtual 104, 3) := by decide +kernel
theorem dX0_release_5 : decode cX0_release 5 = .ok (.aload_n 0, 1) := by decide +kernel
theorem dX0_release_6 : decode cX0_release 6 = .ok (.invokevirtual 68, 3) := by decide +kernel
theorem dX0_release_9 : decode cX0_release 9 = .ok (.aload_n 0, 1) := by decide +kernel
theorem dX0_release_10 : decode cX0_release 10 = .ok (.aload_n 0, 1) := by decide +kernel
theorem dX0_release_11 : decode cX0_release 11 = .ok (.iload_n 1, 1) := by decide +kernel
theorem dX0_release_12 : decode cX0_release 12 = .ok (.invokevirtual 113, 3) := by decide +kernel
theorem dX0_release_15 : decode cX0_release 15 = .ok (.invokevirtual 95, 3) := by decide +kernel
theorem dX0_release_18 : decode cX0_release 18 = .ok (.aload_n 0, 1) := by decide +kernel
theorem dX0_release_19 : decode cX0_release 19 = .ok (.invokevirtual 110, 3) := by decide +kernel
theorem dX0_release_22 : decode cX0_release 22 = .ok (.ireturn, 1) := by decide +kernel
theorem dX0_crash_0 : decode cX0_crash 0 = .ok (.aload_n 0, 1) := by decide +kernel
theorem dX0_crash_1 : decode cX0_crash 1 = .ok (.iload_n 1, 1) := by decide +kernel
theorem dX0_crash_2 : decode cX0_crash 2 = .ok (.iconst 1, 1) := by decide +kernel
theorem dX0_crash_3 : decode cX0_crash 3 = .ok (.if_icmp .ge 7, 3) := by decide +kernel
theorem dX0_crash_6 : decode cX0_crash 6 = .ok (.iconst 0, 1) := by decide +kernel
theorem dX0_crash_7 : decode cX0_crash 7 = .ok (.goto 4, 3) := by decide +kernel
theorem dX0_crash_10 : decode cX0_crash 10 = .ok (.iload_n 1, 1) := by decide +kernel
theorem dX0_crash_11 : decode cX0_crash 11 = .ok (.putfield 37, 3) := by decide +kernel
theorem dX0_crash_14 : decode cX0_crash 14 = .ok (.return_, 1) := by decide +kernel
set_option maxRecDepth 20000 in
theorem ggX0_recover_X0_forgetTransactions : GoodIn wsX0_recover wsX0_forgetTransactions := goodIn_r _ [13, 14, 15, 16, 29, 30, 31, 32, 33, 34, 35, 36, 37, 38, 39, 40] (by decide +kernel) (by decide +kernel)
set_option maxRecDepth 20000 in
theorem gX0_recover_X0_forgetTransactions : GoodIn wsX0_recover (wsV RX0 34 RX0 yX0_forgetTransactions wsX0_forgetTransactions) := goodIn_app (goodIn_of _ (by decide +kernel)) ggX0_recover_X0_forgetTransactions
set_option maxRecDepth 20000 in
theorem ggX0_recover_X0_writeHomesFromEntries : GoodIn wsX0_recover wsX0_writeHomesFromEntries := goodIn_r _ [20, 3, 21, 22, 12, 23, 24, 25, 26, 27, 2, 1, 28, 29, 30, 31, 32, 33, 34, 35, 36, 37, 38, 39, 40] (by decide +kernel) (by decide +kernel)
set_option maxRecDepth 20000 in
theorem gX0_recover_X0_writeHomesFromEntries : GoodIn wsX0_recover (wsV RX0 116 RX0 yX0_writeHomesFromEntries wsX0_writeHomesFromEntries) := goodIn_app (goodIn_of _ (by decide +kernel)) ggX0_recover_X0_writeHomesFromEntries
set_option maxRecDepth 20000 in
theorem ggX0_recover_X0_putWord : GoodIn wsX0_recover wsX0_putWord := goodIn_r _ [27, 2, 1, 3, 28, 29, 30, 31, 32, 33, 34, 35, 36, 37, 38, 39, 40] (by decide +kernel) (by decide +kernel)
set_option maxRecDepth 20000 in
theorem gX0_recover_X0_putWord : GoodIn wsX0_recover (wsV RX0 119 RX0 yX0_putWord wsX0_putWord) := goodIn_app (goodIn_of _ (by decide +kernel)) ggX0_recover_X0_putWord
theorem dX0_recover_0 : decode cX0_recover 0 = .ok (.aload_n 0, 1) := by decide +kernel
theorem dX0_recover_1 : decode cX0_recover 1 = .ok (.invokevirtual 34, 3) := by decide +kernel
theorem dX0_recover_4 : decode cX0_recover 4 = .ok (.aload_n 0, 1) := by decide +kernel
theorem dX0_recover_5 : decode cX0_recover 5 = .ok (.iconst 0, 1) := by decide +kernel
theorem dX0_recover_6 : decode cX0_recover 6 = .ok (.putfield 37, 3) := by decide +kernel
theorem dX0_recover_9 : decode cX0_recover 9 = .ok (.aload_n 0, 1) := by decide +kernel
theorem dX0_recover_10 : decode cX0_recover 10 = .ok (.iconst 0, 1) := by decide +kernel
theorem dX0_recover_11 : decode cX0_recover 11 = .ok (.putfield 44, 3) := by decide +kernel
theorem dX0_recover_14 : decode cX0_recover 14 = .ok (.iconst 0, 1) := by decide +kernel
theorem dX0_recover_15 : decode cX0_recover 15 = .ok (.istore_n 1, 1) := by decide +kernel
theorem dX0_recover_16 : decode cX0_recover 16 = .ok (.aload_n 0, 1) := by decide +kernel
theorem dX0_recover_17 : decode cX0_recover 17 = .ok (.getfield 9, 3) := by decide +kernel
theorem dX0_recover_20 : decode cX0_recover 20 = .ok (.bipush 32, 2) := by decide +kernel
theorem dX0_recover_22 : decode cX0_recover 22 = .ok (.iaload, 1) := by decide +kernel
theorem dX0_recover_23 : decode cX0_recover 23 = .ok (.iconst 1, 1) := by decide +kernel
theorem dX0_recover_24 : decode cX0_recover 24 = .ok (.if_icmp .lt 27, 3) := by decide +kernel
theorem dX0_recover_27 : decode cX0_recover 27 = .ok (.aload_n 0, 1) := by decide +kernel
theorem dX0_recover_28 : decode cX0_recover 28 = .ok (.getfield 9, 3) := by decide +kernel
theorem dX0_recover_31 : decode cX0_recover 31 = .ok (.bipush 32, 2) := by decide +kernel
theorem dX0_recover_33 : decode cX0_recover 33 = .ok (.iaload, 1) := by decide +kernel
theorem dX0_recover_34 : decode cX0_recover 34 = .ok (.bipush 32, 2) := by decide +kernel
theorem dX0_recover_36 : decode cX0_recover 36 = .ok (.if_icmp .gt 15, 3) := by decide +kernel
theorem dX0_recover_39 : decode cX0_recover 39 = .ok (.aload_n 0, 1) := by decide +kernel
theorem dX0_recover_40 : decode cX0_recover 40 = .ok (.aload_n 0, 1) := by decide +kernel
theorem dX0_recover_41 : decode cX0_recover 41 = .ok (.getfield 9, 3) := by decide +kernel
theorem dX0_recover_44 : decode cX0_recover 44 = .ok (.bipush 32, 2) := by decide +kernel
theorem dX0_recover_46 : decode cX0_recover 46 = .ok (.iaload, 1) := by decide +kernel
theorem dX0_recover_47 : decode cX0_recover 47 = .ok (.invokevirtual 116, 3) := by decide +kernel
theorem dX0_recover_50 : decode cX0_recover 50 = .ok (.istore_n 1, 1) := by decide +kernel
theorem dX0_recover_51 : decode cX0_recover 51 = .ok (.aload_n 0, 1) := by decide +kernel
theorem dX0_recover_52 : decode cX0_recover 52 = .ok (.getfield 9, 3) := by decide +kernel
theorem dX0_recover_55 : decode cX0_recover 55 = .ok (.bipush 32, 2) := by decide +kernel
theorem dX0_recover_57 : decode cX0_recover 57 = .ok (.iaload, 1) := by decide +kernel
theorem dX0_recover_58 : decode cX0_recover 58 = .ok (.ifCond .eq 10, 3) := by decide +kernel
theorem dX0_recover_61 : decode cX0_recover 61 = .ok (.aload_n 0, 1) := by decide +kernel
theorem dX0_recover_62 : decode cX0_recover 62 = .ok (.bipush 32, 2) := by decide +kernel
theorem dX0_recover_64 : decode cX0_recover 64 = .ok (.iconst 0, 1) := by decide +kernel
theorem dX0_recover_65 : decode cX0_recover 65 = .ok (.invokevirtual 119, 3) := by decide +kernel
theorem dX0_recover_68 : decode cX0_recover 68 = .ok (.aload_n 0, 1) := by decide +kernel
theorem dX0_recover_69 : decode cX0_recover 69 = .ok (.getfield 9, 3) := by decide +kernel
theorem dX0_recover_72 : decode cX0_recover 72 = .ok (.iconst 0, 1) := by decide +kernel
theorem dX0_recover_73 : decode cX0_recover 73 = .ok (.aload_n 0, 1) := by decide +kernel
theorem dX0_recover_74 : decode cX0_recover 74 = .ok (.getfield 13, 3) := by decide +kernel
theorem dX0_recover_77 : decode cX0_recover 77 = .ok (.iconst 0, 1) := by decide +kernel
theorem dX0_recover_78 : decode cX0_recover 78 = .ok (.bipush 32, 2) := by decide +kernel
theorem dX0_recover_80 : decode cX0_recover 80 = .ok (.invokestatic 122, 3) := by decide +kernel
theorem dX0_recover_83 : decode cX0_recover 83 = .ok (.iload_n 1, 1) := by decide +kernel
theorem dX0_recover_84 : decode cX0_recover 84 = .ok (.ireturn, 1) := by decide +kernel
set_option maxRecDepth 20000 in
theorem ggX0_disk_X0_needWord : GoodIn wsX0_disk wsX0_needWord := goodIn_ca (goodIn_r _ [6, 7, 8] (by decide +kernel) (by decide +kernel)) (goodIn_sub (fun _ h => List.mem_cons_of_mem _ (List.mem_append_right _ h)) (by decide +kernel))
set_option maxRecDepth 20000 in
theorem gX0_disk_X0_needWord : GoodIn wsX0_disk (wsV RX0 128 RX0 yX0_needWord wsX0_needWord) := goodIn_app (goodIn_of _ (by decide +kernel)) ggX0_disk_X0_needWord
theorem dX0_disk_0 : decode cX0_disk 0 = .ok (.aload_n 0, 1) := by decide +kernel
theorem dX0_disk_1 : decode cX0_disk 1 = .ok (.iload_n 1, 1) := by decide +kernel
theorem dX0_disk_2 : decode cX0_disk 2 = .ok (.invokevirtual 128, 3) := by decide +kernel
theorem dX0_disk_5 : decode cX0_disk 5 = .ok (.aload_n 0, 1) := by decide +kernel
theorem dX0_disk_6 : decode cX0_disk 6 = .ok (.getfield 9, 3) := by decide +kernel
theorem dX0_disk_9 : decode cX0_disk 9 = .ok (.iload_n 1, 1) := by decide +kernel
theorem dX0_disk_10 : decode cX0_disk 10 = .ok (.iaload, 1) := by decide +kernel
theorem dX0_disk_11 : decode cX0_disk 11 = .ok (.ireturn, 1) := by decide +kernel
set_option maxRecDepth 20000 in
theorem ggX0_spoil_X0_needWord : GoodIn wsX0_spoil wsX0_needWord := goodIn_ca (goodIn_r _ [6, 7, 8] (by decide +kernel) (by decide +kernel)) (goodIn_sub (fun _ h => List.mem_cons_of_mem _ (List.mem_append_right _ h)) (by decide +kernel))
set_option maxRecDepth 20000 in
theorem gX0_spoil_X0_needWord : GoodIn wsX0_spoil (wsV RX0 128 RX0 yX0_needWord wsX0_needWord) := goodIn_app (goodIn_of _ (by decide +kernel)) ggX0_spoil_X0_needWord
theorem dX0_spoil_0 : decode cX0_spoil 0 = .ok (.aload_n 0, 1) := by decide +kernel
theorem dX0_spoil_1 : decode cX0_spoil 1 = .ok (.iload_n 1, 1) := by decide +kernel
theorem dX0_spoil_2 : decode cX0_spoil 2 = .ok (.invokevirtual 128, 3) := by decide +kernel
theorem dX0_spoil_5 : decode cX0_spoil 5 = .ok (.aload_n 0, 1) := by decide +kernel
theorem dX0_spoil_6 : decode cX0_spoil 6 = .ok (.getfield 9, 3) := by decide +kernel
theorem dX0_spoil_9 : decode cX0_spoil 9 = .ok (.iload_n 1, 1) := by decide +kernel
theorem dX0_spoil_10 : decode cX0_spoil 10 = .ok (.iaload, 1) := by decide +kernel
theorem dX0_spoil_11 : decode cX0_spoil 11 = .ok (.istore_n 3, 1) := by decide +kernel
theorem dX0_spoil_12 : decode cX0_spoil 12 = .ok (.aload_n 0, 1) := by decide +kernel
theorem dX0_spoil_13 : decode cX0_spoil 13 = .ok (.getfield 9, 3) := by decide +kernel
theorem dX0_spoil_16 : decode cX0_spoil 16 = .ok (.iload_n 1, 1) := by decide +kernel
theorem dX0_spoil_17 : decode cX0_spoil 17 = .ok (.iload_n 2, 1) := by decide +kernel
theorem dX0_spoil_18 : decode cX0_spoil 18 = .ok (.iastore, 1) := by decide +kernel
theorem dX0_spoil_19 : decode cX0_spoil 19 = .ok (.iload_n 3, 1) := by decide +kernel
theorem dX0_spoil_20 : decode cX0_spoil 20 = .ok (.ireturn, 1) := by decide +kernel
set_option maxRecDepth 20000 in
theorem ggX0_level_X0_tracedCells : GoodIn wsX0_level wsX0_tracedCells := goodIn_r _ [9, 10, 11, 12, 20, 21, 22, 23, 24, 25, 26, 27, 28, 29, 30, 31] (by decide +kernel) (by decide +kernel)
set_option maxRecDepth 20000 in
theorem gX0_level_X0_tracedCells : GoodIn wsX0_level (wsV RX0 74 RX0 yX0_tracedCells wsX0_tracedCells) := goodIn_app (goodIn_of _ (by decide +kernel)) ggX0_level_X0_tracedCells
set_option maxRecDepth 20000 in
theorem ggX0_level_J6_bitCount_0f7a4 : GoodIn wsX0_level wsJ6_bitCount_0f7a4 := goodIn_r _ [16, 17, 18, 19] (by decide +kernel) (by decide +kernel)
set_option maxRecDepth 20000 in
theorem gX0_level_J6_bitCount_0f7a4 : GoodIn wsX0_level (va_wsS RX0 136 yJ6_bitCount_0f7a4 wsJ6_bitCount_0f7a4) := goodIn_app (goodIn_of _ (by decide +kernel)) ggX0_level_J6_bitCount_0f7a4
theorem dX0_level_0 : decode cX0_level 0 = .ok (.iload_n 1, 1) := by decide +kernel
theorem dX0_level_1 : decode cX0_level 1 = .ok (.ifCond .lt 11, 3) := by decide +kernel
theorem dX0_level_4 : decode cX0_level 4 = .ok (.iload_n 1, 1) := by decide +kernel
theorem dX0_level_5 : decode cX0_level 5 = .ok (.aload_n 0, 1) := by decide +kernel
theorem dX0_level_6 : decode cX0_level 6 = .ok (.getfield 71, 3) := by decide +kernel
theorem dX0_level_9 : decode cX0_level 9 = .ok (.if_icmp .lt 13, 3) := by decide +kernel
theorem dX0_level_12 : decode cX0_level 12 = .ok (.new 131, 3) := by decide +kernel
theorem dX0_level_15 : decode cX0_level 15 = .ok (.dup, 1) := by decide +kernel
theorem dX0_level_16 : decode cX0_level 16 = .ok (.ldc 133, 2) := by decide +kernel
theorem dX0_level_18 : decode cX0_level 18 = .ok (.invokespecial 135, 3) := by decide +kernel
theorem dX0_level_21 : decode cX0_level 21 = .ok (.athrow, 1) := by decide +kernel
theorem dX0_level_22 : decode cX0_level 22 = .ok (.iload_n 2, 1) := by decide +kernel
theorem dX0_level_23 : decode cX0_level 23 = .ok (.lookupswitch 41 #[(0, 25), (1, 34)], 25) := by decide +kernel
theorem dX0_level_48 : decode cX0_level 48 = .ok (.aload_n 0, 1) := by decide +kernel
theorem dX0_level_49 : decode cX0_level 49 = .ok (.iload_n 1, 1) := by decide +kernel
theorem dX0_level_50 : decode cX0_level 50 = .ok (.invokevirtual 74, 3) := by decide +kernel
theorem dX0_level_53 : decode cX0_level 53 = .ok (.invokestatic 136, 3) := by decide +kernel
theorem dX0_level_56 : decode cX0_level 56 = .ok (.ireturn, 1) := by decide +kernel
theorem dX0_level_57 : decode cX0_level 57 = .ok (.aload_n 0, 1) := by decide +kernel
theorem dX0_level_58 : decode cX0_level 58 = .ok (.getfield 16, 3) := by decide +kernel
theorem dX0_level_61 : decode cX0_level 61 = .ok (.iload_n 1, 1) := by decide +kernel
theorem dX0_level_62 : decode cX0_level 62 = .ok (.iaload, 1) := by decide +kernel
theorem dX0_level_63 : decode cX0_level 63 = .ok (.ireturn, 1) := by decide +kernel
theorem dX0_level_64 : decode cX0_level 64 = .ok (.new 131, 3) := by decide +kernel
theorem dX0_level_67 : decode cX0_level 67 = .ok (.dup, 1) := by decide +kernel
theorem dX0_level_68 : decode cX0_level 68 = .ok (.ldc 141, 2) := by decide +kernel
theorem dX0_level_70 : decode cX0_level 70 = .ok (.invokespecial 135, 3) := by decide +kernel
theorem dX0_level_73 : decode cX0_level 73 = .ok (.athrow, 1) := by decide +kernel
set_option maxRecDepth 20000 in
theorem ggX0_about_X0_points : GoodIn wsX0_about wsX0_points := goodIn_r _ [13, 4, 14, 15, 16, 12, 17, 18, 19, 20, 21, 22, 23, 24, 25, 26, 27, 28, 29, 30] (by decide +kernel) (by decide +kernel)
set_option maxRecDepth 20000 in
theorem gX0_about_X0_points : GoodIn wsX0_about (wsV RX0 110 RX0 yX0_points wsX0_points) := goodIn_app (goodIn_of _ (by decide +kernel)) ggX0_about_X0_points
theorem dX0_about_0 : decode cX0_about 0 = .ok (.iload_n 1, 1) := by decide +kernel
theorem dX0_about_1 : decode cX0_about 1 = .ok (.tableswitch 86 0 6 #[43, 48, 53, 58, 63, 68, 81], 43) := by decide +kernel
theorem dX0_about_44 : decode cX0_about 44 = .ok (.aload_n 0, 1) := by decide +kernel
theorem dX0_about_45 : decode cX0_about 45 = .ok (.getfield 51, 3) := by decide +kernel
theorem dX0_about_48 : decode cX0_about 48 = .ok (.ireturn, 1) := by decide +kernel
theorem dX0_about_49 : decode cX0_about 49 = .ok (.aload_n 0, 1) := by decide +kernel
theorem dX0_about_50 : decode cX0_about 50 = .ok (.getfield 71, 3) := by decide +kernel
theorem dX0_about_53 : decode cX0_about 53 = .ok (.ireturn, 1) := by decide +kernel
theorem dX0_about_54 : decode cX0_about 54 = .ok (.aload_n 0, 1) := by decide +kernel
theorem dX0_about_55 : decode cX0_about 55 = .ok (.getfield 82, 3) := by decide +kernel
theorem dX0_about_58 : decode cX0_about 58 = .ok (.ireturn, 1) := by decide +kernel
theorem dX0_about_59 : decode cX0_about 59 = .ok (.aload_n 0, 1) := by decide +kernel
theorem dX0_about_60 : decode cX0_about 60 = .ok (.getfield 37, 3) := by decide +kernel
theorem dX0_about_63 : decode cX0_about 63 = .ok (.ireturn, 1) := by decide +kernel
theorem dX0_about_64 : decode cX0_about 64 = .ok (.aload_n 0, 1) := by decide +kernel
theorem dX0_about_65 : decode cX0_about 65 = .ok (.getfield 41, 3) := by decide +kernel
theorem dX0_about_68 : decode cX0_about 68 = .ok (.ireturn, 1) := by decide +kernel
theorem dX0_about_69 : decode cX0_about 69 = .ok (.aload_n 0, 1) := by decide +kernel
theorem dX0_about_70 : decode cX0_about 70 = .ok (.getfield 44, 3) := by decide +kernel
theorem dX0_about_73 : decode cX0_about 73 = .ok (.ifCond .eq 7, 3) := by decide +kernel
theorem dX0_about_76 : decode cX0_about 76 = .ok (.iconst 1, 1) := by decide +kernel
theorem dX0_about_77 : decode cX0_about 77 = .ok (.goto 4, 3) := by decide +kernel
theorem dX0_about_80 : decode cX0_about 80 = .ok (.iconst 0, 1) := by decide +kernel
theorem dX0_about_81 : decode cX0_about 81 = .ok (.ireturn, 1) := by decide +kernel
theorem dX0_about_82 : decode cX0_about 82 = .ok (.aload_n 0, 1) := by decide +kernel
theorem dX0_about_83 : decode cX0_about 83 = .ok (.invokevirtual 110, 3) := by decide +kernel
theorem dX0_about_86 : decode cX0_about 86 = .ok (.ireturn, 1) := by decide +kernel
theorem dX0_about_87 : decode cX0_about 87 = .ok (.new 131, 3) := by decide +kernel
theorem dX0_about_90 : decode cX0_about 90 = .ok (.dup, 1) := by decide +kernel
theorem dX0_about_91 : decode cX0_about 91 = .ok (.ldc 143, 2) := by decide +kernel
theorem dX0_about_93 : decode cX0_about 93 = .ok (.invokespecial 135, 3) := by decide +kernel
theorem dX0_about_96 : decode cX0_about 96 = .ok (.athrow, 1) := by decide +kernel
theorem dX0_needPower_0 : decode cX0_needPower 0 = .ok (.aload_n 0, 1) := by decide +kernel
theorem dX0_needPower_1 : decode cX0_needPower 1 = .ok (.getfield 44, 3) := by decide +kernel
theorem dX0_needPower_4 : decode cX0_needPower 4 = .ok (.ifCond .eq 13, 3) := by decide +kernel
theorem dX0_needPower_7 : decode cX0_needPower 7 = .ok (.new 54, 3) := by decide +kernel
theorem dX0_needPower_10 : decode cX0_needPower 10 = .ok (.dup, 1) := by decide +kernel
theorem dX0_needPower_11 : decode cX0_needPower 11 = .ok (.ldc 145, 2) := by decide +kernel
theorem dX0_needPower_13 : decode cX0_needPower 13 = .ok (.invokespecial 58, 3) := by decide +kernel
theorem dX0_needPower_16 : decode cX0_needPower 16 = .ok (.athrow, 1) := by decide +kernel
theorem dX0_needPower_17 : decode cX0_needPower 17 = .ok (.return_, 1) := by decide +kernel
set_option maxRecDepth 20000 in
theorem ggX0_needTransaction_X0_needPower : GoodIn wsX0_needTransaction wsX0_needPower := goodIn_ca (goodIn_r _ [8, 1, 2, 9, 10, 11, 12, 13, 14, 15, 16, 17, 18, 19, 20, 21] (by decide +kernel) (by decide +kernel)) (goodIn_sub (fun _ h => List.mem_cons_of_mem _ (List.mem_append_right _ h)) (by decide +kernel))
set_option maxRecDepth 20000 in
theorem gX0_needTransaction_X0_needPower : GoodIn wsX0_needTransaction (wsV RX0 48 RX0 yX0_needPower wsX0_needPower) := goodIn_app (goodIn_of _ (by decide +kernel)) ggX0_needTransaction_X0_needPower
theorem dX0_needTransaction_0 : decode cX0_needTransaction 0 = .ok (.aload_n 0, 1) := by decide +kernel
theorem dX0_needTransaction_1 : decode cX0_needTransaction 1 = .ok (.invokevirtual 48, 3) := by decide +kernel
theorem dX0_needTransaction_4 : decode cX0_needTransaction 4 = .ok (.aload_n 0, 1) := by decide +kernel
theorem dX0_needTransaction_5 : decode cX0_needTransaction 5 = .ok (.getfield 51, 3) := by decide +kernel
theorem dX0_needTransaction_8 : decode cX0_needTransaction 8 = .ok (.ifCond .ne 13, 3) := by decide +kernel
theorem dX0_needTransaction_11 : decode cX0_needTransaction 11 = .ok (.new 54, 3) := by decide +kernel
theorem dX0_needTransaction_14 : decode cX0_needTransaction 14 = .ok (.dup, 1) := by decide +kernel
theorem dX0_needTransaction_15 : decode cX0_needTransaction 15 = .ok (.ldc 147, 2) := by decide +kernel
theorem dX0_needTransaction_17 : decode cX0_needTransaction 17 = .ok (.invokespecial 58, 3) := by decide +kernel
theorem dX0_needTransaction_20 : decode cX0_needTransaction 20 = .ok (.athrow, 1) := by decide +kernel
theorem dX0_needTransaction_21 : decode cX0_needTransaction 21 = .ok (.return_, 1) := by decide +kernel
set_option maxRecDepth 20000 in
theorem ggX0_needCell_X0_isCell : GoodIn wsX0_needCell wsX0_isCell := goodIn_r _ [6] (by decide +kernel) (by decide +kernel)
set_option maxRecDepth 20000 in
theorem gX0_needCell_X0_isCell : GoodIn wsX0_needCell (va_wsS RX0 149 yX0_isCell wsX0_isCell) := goodIn_app (goodIn_of _ (by decide +kernel)) ggX0_needCell_X0_isCell
theorem dX0_needCell_0 : decode cX0_needCell 0 = .ok (.iload_n 1, 1) := by decide +kernel
theorem dX0_needCell_1 : decode cX0_needCell 1 = .ok (.invokestatic 149, 3) := by decide +kernel
theorem dX0_needCell_4 : decode cX0_needCell 4 = .ok (.ifCond .ne 13, 3) := by decide +kernel
theorem dX0_needCell_7 : decode cX0_needCell 7 = .ok (.new 131, 3) := by decide +kernel
theorem dX0_needCell_10 : decode cX0_needCell 10 = .ok (.dup, 1) := by decide +kernel
theorem dX0_needCell_11 : decode cX0_needCell 11 = .ok (.ldc 153, 2) := by decide +kernel
theorem dX0_needCell_13 : decode cX0_needCell 13 = .ok (.invokespecial 135, 3) := by decide +kernel
theorem dX0_needCell_16 : decode cX0_needCell 16 = .ok (.athrow, 1) := by decide +kernel
theorem dX0_needCell_17 : decode cX0_needCell 17 = .ok (.return_, 1) := by decide +kernel
theorem dX0_needWord_0 : decode cX0_needWord 0 = .ok (.iload_n 1, 1) := by decide +kernel
theorem dX0_needWord_1 : decode cX0_needWord 1 = .ok (.ifCond .lt 9, 3) := by decide +kernel
theorem dX0_needWord_4 : decode cX0_needWord 4 = .ok (.iload_n 1, 1) := by decide +kernel
theorem dX0_needWord_5 : decode cX0_needWord 5 = .ok (.bipush 98, 2) := by decide +kernel
theorem dX0_needWord_7 : decode cX0_needWord 7 = .ok (.if_icmp .lt 13, 3) := by decide +kernel
theorem dX0_needWord_10 : decode cX0_needWord 10 = .ok (.new 131, 3) := by decide +kernel
theorem dX0_needWord_13 : decode cX0_needWord 13 = .ok (.dup, 1) := by decide +kernel
theorem dX0_needWord_14 : decode cX0_needWord 14 = .ok (.ldc 155, 2) := by decide +kernel
theorem dX0_needWord_16 : decode cX0_needWord 16 = .ok (.invokespecial 135, 3) := by decide +kernel
theorem dX0_needWord_19 : decode cX0_needWord 19 = .ok (.athrow, 1) := by decide +kernel
theorem dX0_needWord_20 : decode cX0_needWord 20 = .ok (.return_, 1) := by decide +kernel
theorem dX0_needName_0 : decode cX0_needName 0 = .ok (.iload_n 1, 1) := by decide +kernel
theorem dX0_needName_1 : decode cX0_needName 1 = .ok (.ifCond .lt 9, 3) := by decide +kernel
theorem dX0_needName_4 : decode cX0_needName 4 = .ok (.iload_n 1, 1) := by decide +kernel
theorem dX0_needName_5 : decode cX0_needName 5 = .ok (.bipush 10, 2) := by decide +kernel
theorem dX0_needName_7 : decode cX0_needName 7 = .ok (.if_icmp .lt 13, 3) := by decide +kernel
theorem dX0_needName_10 : decode cX0_needName 10 = .ok (.new 131, 3) := by decide +kernel
theorem dX0_needName_13 : decode cX0_needName 13 = .ok (.dup, 1) := by decide +kernel
theorem dX0_needName_14 : decode cX0_needName 14 = .ok (.ldc 157, 2) := by decide +kernel
theorem dX0_needName_16 : decode cX0_needName 16 = .ok (.invokespecial 135, 3) := by decide +kernel
theorem dX0_needName_19 : decode cX0_needName 19 = .ok (.athrow, 1) := by decide +kernel
theorem dX0_needName_20 : decode cX0_needName 20 = .ok (.return_, 1) := by decide +kernel
set_option maxRecDepth 20000 in
theorem ggX0_needPoint_X0_pointLevel : GoodIn wsX0_needPoint wsX0_pointLevel := goodIn_r _ [7, 8, 9, 10, 11, 12, 6, 13, 14, 15, 16, 17, 18, 19, 20, 21, 22, 23, 24, 25] (by decide +kernel) (by decide +kernel)
set_option maxRecDepth 20000 in
theorem gX0_needPoint_X0_pointLevel : GoodIn wsX0_needPoint (wsV RX0 107 RX0 yX0_pointLevel wsX0_pointLevel) := goodIn_app (goodIn_of _ (by decide +kernel)) ggX0_needPoint_X0_pointLevel
theorem dX0_needPoint_0 : decode cX0_needPoint 0 = .ok (.aload_n 0, 1) := by decide +kernel
theorem dX0_needPoint_1 : decode cX0_needPoint 1 = .ok (.iload_n 1, 1) := by decide +kernel
theorem dX0_needPoint_2 : decode cX0_needPoint 2 = .ok (.invokevirtual 107, 3) := by decide +kernel
theorem dX0_needPoint_5 : decode cX0_needPoint 5 = .ok (.istore_n 2, 1) := by decide +kernel
theorem dX0_needPoint_6 : decode cX0_needPoint 6 = .ok (.iload_n 2, 1) := by decide +kernel
theorem dX0_needPoint_7 : decode cX0_needPoint 7 = .ok (.iconst (-1), 1) := by decide +kernel
theorem dX0_needPoint_8 : decode cX0_needPoint 8 = .ok (.if_icmp .ne 13, 3) := by decide +kernel
theorem dX0_needPoint_11 : decode cX0_needPoint 11 = .ok (.new 131, 3) := by decide +kernel
theorem dX0_needPoint_14 : decode cX0_needPoint 14 = .ok (.dup, 1) := by decide +kernel
theorem dX0_needPoint_15 : decode cX0_needPoint 15 = .ok (.ldc 159, 2) := by decide +kernel
theorem dX0_needPoint_17 : decode cX0_needPoint 17 = .ok (.invokespecial 135, 3) := by decide +kernel
theorem dX0_needPoint_20 : decode cX0_needPoint 20 = .ok (.athrow, 1) := by decide +kernel
theorem dX0_needPoint_21 : decode cX0_needPoint 21 = .ok (.iload_n 2, 1) := by decide +kernel
theorem dX0_needPoint_22 : decode cX0_needPoint 22 = .ok (.ireturn, 1) := by decide +kernel
theorem dX0_isCell_0 : decode cX0_isCell 0 = .ok (.iload_n 0, 1) := by decide +kernel
theorem dX0_isCell_1 : decode cX0_isCell 1 = .ok (.ifCond .lt 13, 3) := by decide +kernel
theorem dX0_isCell_4 : decode cX0_isCell 4 = .ok (.iload_n 0, 1) := by decide +kernel
theorem dX0_isCell_5 : decode cX0_isCell 5 = .ok (.bipush 32, 2) := by decide +kernel
theorem dX0_isCell_7 : decode cX0_isCell 7 = .ok (.if_icmp .ge 7, 3) := by decide +kernel
theorem dX0_isCell_10 : decode cX0_isCell 10 = .ok (.iconst 1, 1) := by decide +kernel
theorem dX0_isCell_11 : decode cX0_isCell 11 = .ok (.goto 4, 3) := by decide +kernel
theorem dX0_isCell_14 : decode cX0_isCell 14 = .ok (.iconst 0, 1) := by decide +kernel
theorem dX0_isCell_15 : decode cX0_isCell 15 = .ok (.ireturn, 1) := by decide +kernel
theorem dX0_holds_0 : decode cX0_holds 0 = .ok (.iload_n 0, 1) := by decide +kernel
theorem dX0_holds_1 : decode cX0_holds 1 = .ok (.iload_n 1, 1) := by decide +kernel
theorem dX0_holds_2 : decode cX0_holds 2 = .ok (.iushr, 1) := by decide +kernel
theorem dX0_holds_3 : decode cX0_holds 3 = .ok (.iconst 1, 1) := by decide +kernel
theorem dX0_holds_4 : decode cX0_holds 4 = .ok (.iand, 1) := by decide +kernel
theorem dX0_holds_5 : decode cX0_holds 5 = .ok (.ifCond .eq 7, 3) := by decide +kernel
theorem dX0_holds_8 : decode cX0_holds 8 = .ok (.iconst 1, 1) := by decide +kernel
theorem dX0_holds_9 : decode cX0_holds 9 = .ok (.goto 4, 3) := by decide +kernel
theorem dX0_holds_12 : decode cX0_holds 12 = .ok (.iconst 0, 1) := by decide +kernel
theorem dX0_holds_13 : decode cX0_holds 13 = .ok (.ireturn, 1) := by decide +kernel
theorem dX0_forgetTransactions_0 : decode cX0_forgetTransactions 0 = .ok (.aload_n 0, 1) := by decide +kernel
theorem dX0_forgetTransactions_1 : decode cX0_forgetTransactions 1 = .ok (.iconst 0, 1) := by decide +kernel
theorem dX0_forgetTransactions_2 : decode cX0_forgetTransactions 2 = .ok (.putfield 51, 3) := by decide +kernel
theorem dX0_forgetTransactions_5 : decode cX0_forgetTransactions 5 = .ok (.aload_n 0, 1) := by decide +kernel
theorem dX0_forgetTransactions_6 : decode cX0_forgetTransactions 6 = .ok (.iconst 0, 1) := by decide +kernel
theorem dX0_forgetTransactions_7 : decode cX0_forgetTransactions 7 = .ok (.putfield 71, 3) := by decide +kernel
theorem dX0_forgetTransactions_10 : decode cX0_forgetTransactions 10 = .ok (.aload_n 0, 1) := by decide +kernel
theorem dX0_forgetTransactions_11 : decode cX0_forgetTransactions 11 = .ok (.iconst 0, 1) := by decide +kernel
theorem dX0_forgetTransactions_12 : decode cX0_forgetTransactions 12 = .ok (.putfield 82, 3) := by decide +kernel
theorem dX0_forgetTransactions_15 : decode cX0_forgetTransactions 15 = .ok (.return_, 1) := by decide +kernel
theorem dX0_openLevel_0 : decode cX0_openLevel 0 = .ok (.aload_n 0, 1) := by decide +kernel
theorem dX0_openLevel_1 : decode cX0_openLevel 1 = .ok (.getfield 16, 3) := by decide +kernel
theorem dX0_openLevel_4 : decode cX0_openLevel 4 = .ok (.aload_n 0, 1) := by decide +kernel
theorem dX0_openLevel_5 : decode cX0_openLevel 5 = .ok (.getfield 71, 3) := by decide +kernel
theorem dX0_openLevel_8 : decode cX0_openLevel 8 = .ok (.iload_n 1, 1) := by decide +kernel
theorem dX0_openLevel_9 : decode cX0_openLevel 9 = .ok (.iastore, 1) := by decide +kernel
theorem dX0_openLevel_10 : decode cX0_openLevel 10 = .ok (.aload_n 0, 1) := by decide +kernel
theorem dX0_openLevel_11 : decode cX0_openLevel 11 = .ok (.dup, 1) := by decide +kernel
theorem dX0_openLevel_12 : decode cX0_openLevel 12 = .ok (.getfield 71, 3) := by decide +kernel
theorem dX0_openLevel_15 : decode cX0_openLevel 15 = .ok (.iconst 1, 1) := by decide +kernel
theorem dX0_openLevel_16 : decode cX0_openLevel 16 = .ok (.iadd, 1) := by decide +kernel
theorem dX0_openLevel_17 : decode cX0_openLevel 17 = .ok (.putfield 71, 3) := by decide +kernel
theorem dX0_openLevel_20 : decode cX0_openLevel 20 = .ok (.return_, 1) := by decide +kernel
theorem dX0_innermostLevel_0 : decode cX0_innermostLevel 0 = .ok (.aload_n 0, 1) := by decide +kernel
theorem dX0_innermostLevel_1 : decode cX0_innermostLevel 1 = .ok (.getfield 71, 3) := by decide +kernel
theorem dX0_innermostLevel_4 : decode cX0_innermostLevel 4 = .ok (.iconst 1, 1) := by decide +kernel
theorem dX0_innermostLevel_5 : decode cX0_innermostLevel 5 = .ok (.isub, 1) := by decide +kernel
theorem dX0_innermostLevel_6 : decode cX0_innermostLevel 6 = .ok (.istore_n 1, 1) := by decide +kernel
theorem dX0_innermostLevel_7 : decode cX0_innermostLevel 7 = .ok (.iload_n 1, 1) := by decide +kernel
theorem dX0_innermostLevel_8 : decode cX0_innermostLevel 8 = .ok (.ifCond .lt 19, 3) := by decide +kernel
theorem dX0_innermostLevel_11 : decode cX0_innermostLevel 11 = .ok (.aload_n 0, 1) := by decide +kernel
theorem dX0_innermostLevel_12 : decode cX0_innermostLevel 12 = .ok (.getfield 16, 3) := by decide +kernel
theorem dX0_innermostLevel_15 : decode cX0_innermostLevel 15 = .ok (.iload_n 1, 1) := by decide +kernel
theorem dX0_innermostLevel_16 : decode cX0_innermostLevel 16 = .ok (.iaload, 1) := by decide +kernel
theorem dX0_innermostLevel_17 : decode cX0_innermostLevel 17 = .ok (.iconst (-1), 1) := by decide +kernel
theorem dX0_innermostLevel_18 : decode cX0_innermostLevel 18 = .ok (.if_icmp .eq 9, 3) := by decide +kernel
theorem dX0_innermostLevel_21 : decode cX0_innermostLevel 21 = .ok (.iinc 1 (-1), 3) := by decide +kernel
theorem dX0_innermostLevel_24 : decode cX0_innermostLevel 24 = .ok (.goto (-17), 3) := by decide +kernel
theorem dX0_innermostLevel_27 : decode cX0_innermostLevel 27 = .ok (.iload_n 1, 1) := by decide +kernel
theorem dX0_innermostLevel_28 : decode cX0_innermostLevel 28 = .ok (.ireturn, 1) := by decide +kernel
set_option maxRecDepth 20000 in
theorem ggX0_points_X0_innermostLevel : GoodIn wsX0_points wsX0_innermostLevel := goodIn_r _ [6, 1, 7, 8, 9, 10, 11, 12, 13, 14, 15, 16, 17, 18, 19] (by decide +kernel) (by decide +kernel)
set_option maxRecDepth 20000 in
theorem gX0_points_X0_innermostLevel : GoodIn wsX0_points (wsV RX0 91 RX0 yX0_innermostLevel wsX0_innermostLevel) := goodIn_app (goodIn_of _ (by decide +kernel)) ggX0_points_X0_innermostLevel
theorem dX0_points_0 : decode cX0_points 0 = .ok (.aload_n 0, 1) := by decide +kernel
theorem dX0_points_1 : decode cX0_points 1 = .ok (.getfield 71, 3) := by decide +kernel
theorem dX0_points_4 : decode cX0_points 4 = .ok (.iconst 1, 1) := by decide +kernel
theorem dX0_points_5 : decode cX0_points 5 = .ok (.isub, 1) := by decide +kernel
theorem dX0_points_6 : decode cX0_points 6 = .ok (.aload_n 0, 1) := by decide +kernel
theorem dX0_points_7 : decode cX0_points 7 = .ok (.invokevirtual 91, 3) := by decide +kernel
theorem dX0_points_10 : decode cX0_points 10 = .ok (.isub, 1) := by decide +kernel
theorem dX0_points_11 : decode cX0_points 11 = .ok (.ireturn, 1) := by decide +kernel
set_option maxRecDepth 20000 in
theorem ggX0_pointLevel_X0_innermostLevel : GoodIn wsX0_pointLevel wsX0_innermostLevel := goodIn_r _ [7, 1, 2, 8, 9, 10, 11, 12, 13, 14, 15, 16, 17, 18, 19] (by decide +kernel) (by decide +kernel)
set_option maxRecDepth 20000 in
theorem gX0_pointLevel_X0_innermostLevel : GoodIn wsX0_pointLevel (wsV RX0 91 RX0 yX0_innermostLevel wsX0_innermostLevel) := goodIn_app (goodIn_of _ (by decide +kernel)) ggX0_pointLevel_X0_innermostLevel
theorem dX0_pointLevel_0 : decode cX0_pointLevel 0 = .ok (.aload_n 0, 1) := by decide +kernel
theorem dX0_pointLevel_1 : decode cX0_pointLevel 1 = .ok (.invokevirtual 91, 3) := by decide +kernel
theorem dX0_pointLevel_4 : decode cX0_pointLevel 4 = .ok (.istore_n 2, 1) := by decide +kernel
theorem dX0_pointLevel_5 : decode cX0_pointLevel 5 = .ok (.aload_n 0, 1) := by decide +kernel
theorem dX0_pointLevel_6 : decode cX0_pointLevel 6 = .ok (.getfield 71, 3) := by decide +kernel
theorem dX0_pointLevel_9 : decode cX0_pointLevel 9 = .ok (.iconst 1, 1) := by decide +kernel
theorem dX0_pointLevel_10 : decode cX0_pointLevel 10 = .ok (.isub, 1) := by decide +kernel
theorem dX0_pointLevel_11 : decode cX0_pointLevel 11 = .ok (.istore_n 3, 1) := by decide +kernel
theorem dX0_pointLevel_12 : decode cX0_pointLevel 12 = .ok (.iload_n 3, 1) := by decide +kernel
theorem dX0_pointLevel_13 : decode cX0_pointLevel 13 = .ok (.iload_n 2, 1) := by decide +kernel
theorem dX0_pointLevel_14 : decode cX0_pointLevel 14 = .ok (.if_icmp .le 21, 3) := by decide +kernel
theorem dX0_pointLevel_17 : decode cX0_pointLevel 17 = .ok (.aload_n 0, 1) := by decide +kernel
theorem dX0_pointLevel_18 : decode cX0_pointLevel 18 = .ok (.getfield 16, 3) := by decide +kernel
theorem dX0_pointLevel_21 : decode cX0_pointLevel 21 = .ok (.iload_n 3, 1) := by decide +kernel
theorem dX0_pointLevel_22 : decode cX0_pointLevel 22 = .ok (.iaload, 1) := by decide +kernel
theorem dX0_pointLevel_23 : decode cX0_pointLevel 23 = .ok (.iload_n 1, 1) := by decide +kernel
theorem dX0_pointLevel_24 : decode cX0_pointLevel 24 = .ok (.if_icmp .ne 5, 3) := by decide +kernel
theorem dX0_pointLevel_27 : decode cX0_pointLevel 27 = .ok (.iload_n 3, 1) := by decide +kernel
theorem dX0_pointLevel_28 : decode cX0_pointLevel 28 = .ok (.ireturn, 1) := by decide +kernel
theorem dX0_pointLevel_29 : decode cX0_pointLevel 29 = .ok (.iinc 3 (-1), 3) := by decide +kernel
theorem dX0_pointLevel_32 : decode cX0_pointLevel 32 = .ok (.goto (-20), 3) := by decide +kernel
theorem dX0_pointLevel_35 : decode cX0_pointLevel 35 = .ok (.iconst (-1), 1) := by decide +kernel
theorem dX0_pointLevel_36 : decode cX0_pointLevel 36 = .ok (.ireturn, 1) := by decide +kernel
theorem dX0_tracedCells_0 : decode cX0_tracedCells 0 = .ok (.iconst 0, 1) := by decide +kernel
theorem dX0_tracedCells_1 : decode cX0_tracedCells 1 = .ok (.istore_n 2, 1) := by decide +kernel
theorem dX0_tracedCells_2 : decode cX0_tracedCells 2 = .ok (.iconst 0, 1) := by decide +kernel
theorem dX0_tracedCells_3 : decode cX0_tracedCells 3 = .ok (.istore_n 3, 1) := by decide +kernel
theorem dX0_tracedCells_4 : decode cX0_tracedCells 4 = .ok (.iload_n 3, 1) := by decide +kernel
theorem dX0_tracedCells_5 : decode cX0_tracedCells 5 = .ok (.aload_n 0, 1) := by decide +kernel
theorem dX0_tracedCells_6 : decode cX0_tracedCells 6 = .ok (.getfield 82, 3) := by decide +kernel
theorem dX0_tracedCells_9 : decode cX0_tracedCells 9 = .ok (.if_icmp .ge 30, 3) := by decide +kernel
theorem dX0_tracedCells_12 : decode cX0_tracedCells 12 = .ok (.aload_n 0, 1) := by decide +kernel
theorem dX0_tracedCells_13 : decode cX0_tracedCells 13 = .ok (.getfield 19, 3) := by decide +kernel
theorem dX0_tracedCells_16 : decode cX0_tracedCells 16 = .ok (.iload_n 3, 1) := by decide +kernel
theorem dX0_tracedCells_17 : decode cX0_tracedCells 17 = .ok (.iaload, 1) := by decide +kernel
theorem dX0_tracedCells_18 : decode cX0_tracedCells 18 = .ok (.iload_n 1, 1) := by decide +kernel
theorem dX0_tracedCells_19 : decode cX0_tracedCells 19 = .ok (.if_icmp .ne 14, 3) := by decide +kernel
theorem dX0_tracedCells_22 : decode cX0_tracedCells 22 = .ok (.iload_n 2, 1) := by decide +kernel
theorem dX0_tracedCells_23 : decode cX0_tracedCells 23 = .ok (.iconst 1, 1) := by decide +kernel
theorem dX0_tracedCells_24 : decode cX0_tracedCells 24 = .ok (.aload_n 0, 1) := by decide +kernel
theorem dX0_tracedCells_25 : decode cX0_tracedCells 25 = .ok (.getfield 22, 3) := by decide +kernel
theorem dX0_tracedCells_28 : decode cX0_tracedCells 28 = .ok (.iload_n 3, 1) := by decide +kernel
theorem dX0_tracedCells_29 : decode cX0_tracedCells 29 = .ok (.iaload, 1) := by decide +kernel
theorem dX0_tracedCells_30 : decode cX0_tracedCells 30 = .ok (.ishl, 1) := by decide +kernel
theorem dX0_tracedCells_31 : decode cX0_tracedCells 31 = .ok (.ior, 1) := by decide +kernel
theorem dX0_tracedCells_32 : decode cX0_tracedCells 32 = .ok (.istore_n 2, 1) := by decide +kernel
theorem dX0_tracedCells_33 : decode cX0_tracedCells 33 = .ok (.iinc 3 1, 3) := by decide +kernel
theorem dX0_tracedCells_36 : decode cX0_tracedCells 36 = .ok (.goto (-32), 3) := by decide +kernel
theorem dX0_tracedCells_39 : decode cX0_tracedCells 39 = .ok (.iload_n 2, 1) := by decide +kernel
theorem dX0_tracedCells_40 : decode cX0_tracedCells 40 = .ok (.ireturn, 1) := by decide +kernel
theorem dX0_leaveTrace_0 : decode cX0_leaveTrace 0 = .ok (.aload_n 0, 1) := by decide +kernel
theorem dX0_leaveTrace_1 : decode cX0_leaveTrace 1 = .ok (.getfield 19, 3) := by decide +kernel
theorem dX0_leaveTrace_4 : decode cX0_leaveTrace 4 = .ok (.aload_n 0, 1) := by decide +kernel
theorem dX0_leaveTrace_5 : decode cX0_leaveTrace 5 = .ok (.getfield 82, 3) := by decide +kernel
theorem dX0_leaveTrace_8 : decode cX0_leaveTrace 8 = .ok (.iload_n 1, 1) := by decide +kernel
theorem dX0_leaveTrace_9 : decode cX0_leaveTrace 9 = .ok (.iastore, 1) := by decide +kernel
theorem dX0_leaveTrace_10 : decode cX0_leaveTrace 10 = .ok (.aload_n 0, 1) := by decide +kernel
theorem dX0_leaveTrace_11 : decode cX0_leaveTrace 11 = .ok (.getfield 22, 3) := by decide +kernel
theorem dX0_leaveTrace_14 : decode cX0_leaveTrace 14 = .ok (.aload_n 0, 1) := by decide +kernel
theorem dX0_leaveTrace_15 : decode cX0_leaveTrace 15 = .ok (.getfield 82, 3) := by decide +kernel
theorem dX0_leaveTrace_18 : decode cX0_leaveTrace 18 = .ok (.iload_n 2, 1) := by decide +kernel
theorem dX0_leaveTrace_19 : decode cX0_leaveTrace 19 = .ok (.iastore, 1) := by decide +kernel
theorem dX0_leaveTrace_20 : decode cX0_leaveTrace 20 = .ok (.aload_n 0, 1) := by decide +kernel
theorem dX0_leaveTrace_21 : decode cX0_leaveTrace 21 = .ok (.getfield 25, 3) := by decide +kernel
theorem dX0_leaveTrace_24 : decode cX0_leaveTrace 24 = .ok (.aload_n 0, 1) := by decide +kernel
theorem dX0_leaveTrace_25 : decode cX0_leaveTrace 25 = .ok (.getfield 82, 3) := by decide +kernel
theorem dX0_leaveTrace_28 : decode cX0_leaveTrace 28 = .ok (.aload_n 0, 1) := by decide +kernel
theorem dX0_leaveTrace_29 : decode cX0_leaveTrace 29 = .ok (.getfield 13, 3) := by decide +kernel
theorem dX0_leaveTrace_32 : decode cX0_leaveTrace 32 = .ok (.iload_n 2, 1) := by decide +kernel
theorem dX0_leaveTrace_33 : decode cX0_leaveTrace 33 = .ok (.iaload, 1) := by decide +kernel
theorem dX0_leaveTrace_34 : decode cX0_leaveTrace 34 = .ok (.iastore, 1) := by decide +kernel
theorem dX0_leaveTrace_35 : decode cX0_leaveTrace 35 = .ok (.aload_n 0, 1) := by decide +kernel
theorem dX0_leaveTrace_36 : decode cX0_leaveTrace 36 = .ok (.dup, 1) := by decide +kernel
theorem dX0_leaveTrace_37 : decode cX0_leaveTrace 37 = .ok (.getfield 82, 3) := by decide +kernel
theorem dX0_leaveTrace_40 : decode cX0_leaveTrace 40 = .ok (.iconst 1, 1) := by decide +kernel
theorem dX0_leaveTrace_41 : decode cX0_leaveTrace 41 = .ok (.iadd, 1) := by decide +kernel
theorem dX0_leaveTrace_42 : decode cX0_leaveTrace 42 = .ok (.putfield 82, 3) := by decide +kernel
theorem dX0_leaveTrace_45 : decode cX0_leaveTrace 45 = .ok (.return_, 1) := by decide +kernel
set_option maxRecDepth 20000 in
theorem ggX0_foldLevel_X0_tracedCells : GoodIn wsX0_foldLevel wsX0_tracedCells := goodIn_r _ [11, 1, 2, 3, 15, 16, 17, 18, 19, 20, 21, 22, 23, 24, 25, 26] (by decide +kernel) (by decide +kernel)
set_option maxRecDepth 20000 in
theorem gX0_foldLevel_X0_tracedCells : GoodIn wsX0_foldLevel (wsV RX0 74 RX0 yX0_tracedCells wsX0_tracedCells) := goodIn_app (goodIn_of _ (by decide +kernel)) ggX0_foldLevel_X0_tracedCells
set_option maxRecDepth 20000 in
theorem ggX0_foldLevel_X0_holds : GoodIn wsX0_foldLevel wsX0_holds := goodIn_r _ [14] (by decide +kernel) (by decide +kernel)
set_option maxRecDepth 20000 in
theorem gX0_foldLevel_X0_holds : GoodIn wsX0_foldLevel (va_wsS RX0 78 yX0_holds wsX0_holds) := goodIn_app (goodIn_of _ (by decide +kernel)) ggX0_foldLevel_X0_holds
theorem dX0_foldLevel_0 : decode cX0_foldLevel 0 = .ok (.aload_n 0, 1) := by decide +kernel
theorem dX0_foldLevel_1 : decode cX0_foldLevel 1 = .ok (.iload_n 1, 1) := by decide +kernel
theorem dX0_foldLevel_2 : decode cX0_foldLevel 2 = .ok (.iconst 1, 1) := by decide +kernel
theorem dX0_foldLevel_3 : decode cX0_foldLevel 3 = .ok (.isub, 1) := by decide +kernel
theorem dX0_foldLevel_4 : decode cX0_foldLevel 4 = .ok (.invokevirtual 74, 3) := by decide +kernel
theorem dX0_foldLevel_7 : decode cX0_foldLevel 7 = .ok (.istore_n 2, 1) := by decide +kernel
theorem dX0_foldLevel_8 : decode cX0_foldLevel 8 = .ok (.iconst 0, 1) := by decide +kernel
theorem dX0_foldLevel_9 : decode cX0_foldLevel 9 = .ok (.istore_n 3, 1) := by decide +kernel
theorem dX0_foldLevel_10 : decode cX0_foldLevel 10 = .ok (.iconst 0, 1) := by decide +kernel
theorem dX0_foldLevel_11 : decode cX0_foldLevel 11 = .ok (.istore 4, 2) := by decide +kernel
theorem dX0_foldLevel_13 : decode cX0_foldLevel 13 = .ok (.iload 4, 2) := by decide +kernel
theorem dX0_foldLevel_15 : decode cX0_foldLevel 15 = .ok (.aload_n 0, 1) := by decide +kernel
theorem dX0_foldLevel_16 : decode cX0_foldLevel 16 = .ok (.getfield 82, 3) := by decide +kernel
theorem dX0_foldLevel_19 : decode cX0_foldLevel 19 = .ok (.if_icmp .ge 99, 3) := by decide +kernel
theorem dX0_foldLevel_22 : decode cX0_foldLevel 22 = .ok (.aload_n 0, 1) := by decide +kernel
theorem dX0_foldLevel_23 : decode cX0_foldLevel 23 = .ok (.getfield 19, 3) := by decide +kernel
theorem dX0_foldLevel_26 : decode cX0_foldLevel 26 = .ok (.iload 4, 2) := by decide +kernel
theorem dX0_foldLevel_28 : decode cX0_foldLevel 28 = .ok (.iaload, 1) := by decide +kernel
theorem dX0_foldLevel_29 : decode cX0_foldLevel 29 = .ok (.iload_n 1, 1) := by decide +kernel
theorem dX0_foldLevel_30 : decode cX0_foldLevel 30 = .ok (.if_icmp .ne 17, 3) := by decide +kernel
theorem dX0_foldLevel_33 : decode cX0_foldLevel 33 = .ok (.iload_n 2, 1) := by decide +kernel
theorem dX0_foldLevel_34 : decode cX0_foldLevel 34 = .ok (.aload_n 0, 1) := by decide +kernel
theorem dX0_foldLevel_35 : decode cX0_foldLevel 35 = .ok (.getfield 22, 3) := by decide +kernel
theorem dX0_foldLevel_38 : decode cX0_foldLevel 38 = .ok (.iload 4, 2) := by decide +kernel
theorem dX0_foldLevel_40 : decode cX0_foldLevel 40 = .ok (.iaload, 1) := by decide +kernel
theorem dX0_foldLevel_41 : decode cX0_foldLevel 41 = .ok (.invokestatic 78, 3) := by decide +kernel
theorem dX0_foldLevel_44 : decode cX0_foldLevel 44 = .ok (.ifCond .ne 68, 3) := by decide +kernel
theorem dX0_foldLevel_47 : decode cX0_foldLevel 47 = .ok (.aload_n 0, 1) := by decide +kernel
theorem dX0_foldLevel_48 : decode cX0_foldLevel 48 = .ok (.getfield 19, 3) := by decide +kernel
theorem dX0_foldLevel_51 : decode cX0_foldLevel 51 = .ok (.iload_n 3, 1) := by decide +kernel
theorem dX0_foldLevel_52 : decode cX0_foldLevel 52 = .ok (.aload_n 0, 1) := by decide +kernel
theorem dX0_foldLevel_53 : decode cX0_foldLevel 53 = .ok (.getfield 19, 3) := by decide +kernel
theorem dX0_foldLevel_56 : decode cX0_foldLevel 56 = .ok (.iload 4, 2) := by decide +kernel
theorem dX0_foldLevel_58 : decode cX0_foldLevel 58 = .ok (.iaload, 1) := by decide +kernel
theorem dX0_foldLevel_59 : decode cX0_foldLevel 59 = .ok (.iload_n 1, 1) := by decide +kernel
theorem dX0_foldLevel_60 : decode cX0_foldLevel 60 = .ok (.if_icmp .ge 13, 3) := by decide +kernel
theorem dX0_foldLevel_63 : decode cX0_foldLevel 63 = .ok (.aload_n 0, 1) := by decide +kernel
theorem dX0_foldLevel_64 : decode cX0_foldLevel 64 = .ok (.getfield 19, 3) := by decide +kernel
theorem dX0_foldLevel_67 : decode cX0_foldLevel 67 = .ok (.iload 4, 2) := by decide +kernel
theorem dX0_foldLevel_69 : decode cX0_foldLevel 69 = .ok (.iaload, 1) := by decide +kernel
theorem dX0_foldLevel_70 : decode cX0_foldLevel 70 = .ok (.goto 12, 3) := by decide +kernel
theorem dX0_foldLevel_73 : decode cX0_foldLevel 73 = .ok (.aload_n 0, 1) := by decide +kernel
theorem dX0_foldLevel_74 : decode cX0_foldLevel 74 = .ok (.getfield 19, 3) := by decide +kernel
theorem dX0_foldLevel_77 : decode cX0_foldLevel 77 = .ok (.iload 4, 2) := by decide +kernel
theorem dX0_foldLevel_79 : decode cX0_foldLevel 79 = .ok (.iaload, 1) := by decide +kernel
theorem dX0_foldLevel_80 : decode cX0_foldLevel 80 = .ok (.iconst 1, 1) := by decide +kernel
theorem dX0_foldLevel_81 : decode cX0_foldLevel 81 = .ok (.isub, 1) := by decide +kernel
theorem dX0_foldLevel_82 : decode cX0_foldLevel 82 = .ok (.iastore, 1) := by decide +kernel
theorem dX0_foldLevel_83 : decode cX0_foldLevel 83 = .ok (.aload_n 0, 1) := by decide +kernel
theorem dX0_foldLevel_84 : decode cX0_foldLevel 84 = .ok (.getfield 22, 3) := by decide +kernel
theorem dX0_foldLevel_87 : decode cX0_foldLevel 87 = .ok (.iload_n 3, 1) := by decide +kernel
theorem dX0_foldLevel_88 : decode cX0_foldLevel 88 = .ok (.aload_n 0, 1) := by decide +kernel
theorem dX0_foldLevel_89 : decode cX0_foldLevel 89 = .ok (.getfield 22, 3) := by decide +kernel
theorem dX0_foldLevel_92 : decode cX0_foldLevel 92 = .ok (.iload 4, 2) := by decide +kernel
theorem dX0_foldLevel_94 : decode cX0_foldLevel 94 = .ok (.iaload, 1) := by decide +kernel
theorem dX0_foldLevel_95 : decode cX0_foldLevel 95 = .ok (.iastore, 1) := by decide +kernel
theorem dX0_foldLevel_96 : decode cX0_foldLevel 96 = .ok (.aload_n 0, 1) := by decide +kernel
theorem dX0_foldLevel_97 : decode cX0_foldLevel 97 = .ok (.getfield 25, 3) := by decide +kernel
theorem dX0_foldLevel_100 : decode cX0_foldLevel 100 = .ok (.iload_n 3, 1) := by decide +kernel
theorem dX0_foldLevel_101 : decode cX0_foldLevel 101 = .ok (.aload_n 0, 1) := by decide +kernel
theorem dX0_foldLevel_102 : decode cX0_foldLevel 102 = .ok (.getfield 25, 3) := by decide +kernel
theorem dX0_foldLevel_105 : decode cX0_foldLevel 105 = .ok (.iload 4, 2) := by decide +kernel
theorem dX0_foldLevel_107 : decode cX0_foldLevel 107 = .ok (.iaload, 1) := by decide +kernel
theorem dX0_foldLevel_108 : decode cX0_foldLevel 108 = .ok (.iastore, 1) := by decide +kernel
theorem dX0_foldLevel_109 : decode cX0_foldLevel 109 = .ok (.iinc 3 1, 3) := by decide +kernel
theorem dX0_foldLevel_112 : decode cX0_foldLevel 112 = .ok (.iinc 4 1, 3) := by decide +kernel
theorem dX0_foldLevel_115 : decode cX0_foldLevel 115 = .ok (.goto (-102), 3) := by decide +kernel
theorem dX0_foldLevel_118 : decode cX0_foldLevel 118 = .ok (.aload_n 0, 1) := by decide +kernel
theorem dX0_foldLevel_119 : decode cX0_foldLevel 119 = .ok (.iload_n 3, 1) := by decide +kernel
theorem dX0_foldLevel_120 : decode cX0_foldLevel 120 = .ok (.putfield 82, 3) := by decide +kernel
theorem dX0_foldLevel_123 : decode cX0_foldLevel 123 = .ok (.iload_n 1, 1) := by decide +kernel
theorem dX0_foldLevel_124 : decode cX0_foldLevel 124 = .ok (.iconst 1, 1) := by decide +kernel
theorem dX0_foldLevel_125 : decode cX0_foldLevel 125 = .ok (.iadd, 1) := by decide +kernel
theorem dX0_foldLevel_126 : decode cX0_foldLevel 126 = .ok (.istore 4, 2) := by decide +kernel
theorem dX0_foldLevel_128 : decode cX0_foldLevel 128 = .ok (.iload 4, 2) := by decide +kernel
theorem dX0_foldLevel_130 : decode cX0_foldLevel 130 = .ok (.aload_n 0, 1) := by decide +kernel
theorem dX0_foldLevel_131 : decode cX0_foldLevel 131 = .ok (.getfield 71, 3) := by decide +kernel
theorem dX0_foldLevel_134 : decode cX0_foldLevel 134 = .ok (.if_icmp .ge 25, 3) := by decide +kernel
theorem dX0_foldLevel_137 : decode cX0_foldLevel 137 = .ok (.aload_n 0, 1) := by decide +kernel
theorem dX0_foldLevel_138 : decode cX0_foldLevel 138 = .ok (.getfield 16, 3) := by decide +kernel
theorem dX0_foldLevel_141 : decode cX0_foldLevel 141 = .ok (.iload 4, 2) := by decide +kernel
theorem dX0_foldLevel_143 : decode cX0_foldLevel 143 = .ok (.iconst 1, 1) := by decide +kernel
theorem dX0_foldLevel_144 : decode cX0_foldLevel 144 = .ok (.isub, 1) := by decide +kernel
theorem dX0_foldLevel_145 : decode cX0_foldLevel 145 = .ok (.aload_n 0, 1) := by decide +kernel
theorem dX0_foldLevel_146 : decode cX0_foldLevel 146 = .ok (.getfield 16, 3) := by decide +kernel
theorem dX0_foldLevel_149 : decode cX0_foldLevel 149 = .ok (.iload 4, 2) := by decide +kernel
theorem dX0_foldLevel_151 : decode cX0_foldLevel 151 = .ok (.iaload, 1) := by decide +kernel
theorem dX0_foldLevel_152 : decode cX0_foldLevel 152 = .ok (.iastore, 1) := by decide +kernel
theorem dX0_foldLevel_153 : decode cX0_foldLevel 153 = .ok (.iinc 4 1, 3) := by decide +kernel
theorem dX0_foldLevel_156 : decode cX0_foldLevel 156 = .ok (.goto (-28), 3) := by decide +kernel
theorem dX0_foldLevel_159 : decode cX0_foldLevel 159 = .ok (.aload_n 0, 1) := by decide +kernel
theorem dX0_foldLevel_160 : decode cX0_foldLevel 160 = .ok (.dup, 1) := by decide +kernel
theorem dX0_foldLevel_161 : decode cX0_foldLevel 161 = .ok (.getfield 71, 3) := by decide +kernel
theorem dX0_foldLevel_164 : decode cX0_foldLevel 164 = .ok (.iconst 1, 1) := by decide +kernel
theorem dX0_foldLevel_165 : decode cX0_foldLevel 165 = .ok (.isub, 1) := by decide +kernel
theorem dX0_foldLevel_166 : decode cX0_foldLevel 166 = .ok (.putfield 71, 3) := by decide +kernel
theorem dX0_foldLevel_169 : decode cX0_foldLevel 169 = .ok (.return_, 1) := by decide +kernel
theorem dX0_goBack_0 : decode cX0_goBack 0 = .ok (.iconst 0, 1) := by decide +kernel
theorem dX0_goBack_1 : decode cX0_goBack 1 = .ok (.istore_n 2, 1) := by decide +kernel
theorem dX0_goBack_2 : decode cX0_goBack 2 = .ok (.aload_n 0, 1) := by decide +kernel
theorem dX0_goBack_3 : decode cX0_goBack 3 = .ok (.getfield 82, 3) := by decide +kernel
theorem dX0_goBack_6 : decode cX0_goBack 6 = .ok (.ifCond .le 57, 3) := by decide +kernel
theorem dX0_goBack_9 : decode cX0_goBack 9 = .ok (.aload_n 0, 1) := by decide +kernel
theorem dX0_goBack_10 : decode cX0_goBack 10 = .ok (.getfield 19, 3) := by decide +kernel
theorem dX0_goBack_13 : decode cX0_goBack 13 = .ok (.aload_n 0, 1) := by decide +kernel
theorem dX0_goBack_14 : decode cX0_goBack 14 = .ok (.getfield 82, 3) := by decide +kernel
theorem dX0_goBack_17 : decode cX0_goBack 17 = .ok (.iconst 1, 1) := by decide +kernel
theorem dX0_goBack_18 : decode cX0_goBack 18 = .ok (.isub, 1) := by decide +kernel
theorem dX0_goBack_19 : decode cX0_goBack 19 = .ok (.iaload, 1) := by decide +kernel
theorem dX0_goBack_20 : decode cX0_goBack 20 = .ok (.iload_n 1, 1) := by decide +kernel
theorem dX0_goBack_21 : decode cX0_goBack 21 = .ok (.if_icmp .lt 42, 3) := by decide +kernel
theorem dX0_goBack_24 : decode cX0_goBack 24 = .ok (.aload_n 0, 1) := by decide +kernel
theorem dX0_goBack_25 : decode cX0_goBack 25 = .ok (.dup, 1) := by decide +kernel
theorem dX0_goBack_26 : decode cX0_goBack 26 = .ok (.getfield 82, 3) := by decide +kernel
theorem dX0_goBack_29 : decode cX0_goBack 29 = .ok (.iconst 1, 1) := by decide +kernel
theorem dX0_goBack_30 : decode cX0_goBack 30 = .ok (.isub, 1) := by decide +kernel
theorem dX0_goBack_31 : decode cX0_goBack 31 = .ok (.putfield 82, 3) := by decide +kernel
theorem dX0_goBack_34 : decode cX0_goBack 34 = .ok (.aload_n 0, 1) := by decide +kernel
theorem dX0_goBack_35 : decode cX0_goBack 35 = .ok (.getfield 13, 3) := by decide +kernel
theorem dX0_goBack_38 : decode cX0_goBack 38 = .ok (.aload_n 0, 1) := by decide +kernel
theorem dX0_goBack_39 : decode cX0_goBack 39 = .ok (.getfield 22, 3) := by decide +kernel
theorem dX0_goBack_42 : decode cX0_goBack 42 = .ok (.aload_n 0, 1) := by decide +kernel
theorem dX0_goBack_43 : decode cX0_goBack 43 = .ok (.getfield 82, 3) := by decide +kernel
theorem dX0_goBack_46 : decode cX0_goBack 46 = .ok (.iaload, 1) := by decide +kernel
theorem dX0_goBack_47 : decode cX0_goBack 47 = .ok (.aload_n 0, 1) := by decide +kernel
theorem dX0_goBack_48 : decode cX0_goBack 48 = .ok (.getfield 25, 3) := by decide +kernel
theorem dX0_goBack_51 : decode cX0_goBack 51 = .ok (.aload_n 0, 1) := by decide +kernel
theorem dX0_goBack_52 : decode cX0_goBack 52 = .ok (.getfield 82, 3) := by decide +kernel
theorem dX0_goBack_55 : decode cX0_goBack 55 = .ok (.iaload, 1) := by decide +kernel
theorem dX0_goBack_56 : decode cX0_goBack 56 = .ok (.iastore, 1) := by decide +kernel
theorem dX0_goBack_57 : decode cX0_goBack 57 = .ok (.iinc 2 1, 3) := by decide +kernel
theorem dX0_goBack_60 : decode cX0_goBack 60 = .ok (.goto (-58), 3) := by decide +kernel
theorem dX0_goBack_63 : decode cX0_goBack 63 = .ok (.aload_n 0, 1) := by decide +kernel
theorem dX0_goBack_64 : decode cX0_goBack 64 = .ok (.iload_n 1, 1) := by decide +kernel
theorem dX0_goBack_65 : decode cX0_goBack 65 = .ok (.putfield 71, 3) := by decide +kernel
theorem dX0_goBack_68 : decode cX0_goBack 68 = .ok (.iload_n 2, 1) := by decide +kernel
theorem dX0_goBack_69 : decode cX0_goBack 69 = .ok (.ireturn, 1) := by decide +kernel
set_option maxRecDepth 20000 in
theorem ggX0_keepOnDisk_X0_tracedCells : GoodIn wsX0_keepOnDisk wsX0_tracedCells := goodIn_r _ [6, 7, 8, 9, 36, 37, 38, 39, 40, 41, 42, 43, 44, 45, 46, 47] (by decide +kernel) (by decide +kernel)
set_option maxRecDepth 20000 in
theorem gX0_keepOnDisk_X0_tracedCells : GoodIn wsX0_keepOnDisk (wsV RX0 74 RX0 yX0_tracedCells wsX0_tracedCells) := goodIn_app (goodIn_of _ (by decide +kernel)) ggX0_keepOnDisk_X0_tracedCells
set_option maxRecDepth 20000 in
theorem ggX0_keepOnDisk_J6_bitCount_0f7a4 : GoodIn wsX0_keepOnDisk wsJ6_bitCount_0f7a4 := goodIn_r _ [13, 14, 15, 16] (by decide +kernel) (by decide +kernel)
set_option maxRecDepth 20000 in
theorem gX0_keepOnDisk_J6_bitCount_0f7a4 : GoodIn wsX0_keepOnDisk (va_wsS RX0 136 yJ6_bitCount_0f7a4 wsJ6_bitCount_0f7a4) := goodIn_app (goodIn_of _ (by decide +kernel)) ggX0_keepOnDisk_J6_bitCount_0f7a4
set_option maxRecDepth 20000 in
theorem ggX0_keepOnDisk_X0_writeEntries : GoodIn wsX0_keepOnDisk wsX0_writeEntries := goodIn_r _ [20, 21, 22, 23, 5, 24, 25, 26, 27, 28, 29, 30, 1, 31, 36, 37, 38, 39, 40, 41, 42, 43, 44, 45, 46, 47] (by decide +kernel) (by decide +kernel)
set_option maxRecDepth 20000 in
theorem gX0_keepOnDisk_X0_writeEntries : GoodIn wsX0_keepOnDisk (wsV RX0 161 RX0 yX0_writeEntries wsX0_writeEntries) := goodIn_app (goodIn_of _ (by decide +kernel)) ggX0_keepOnDisk_X0_writeEntries
set_option maxRecDepth 20000 in
theorem ggX0_keepOnDisk_X0_putWord : GoodIn wsX0_keepOnDisk wsX0_putWord := goodIn_r _ [28, 29, 30, 1, 31, 36, 37, 38, 39, 40, 41, 42, 43, 44, 45, 46, 47] (by decide +kernel) (by decide +kernel)
set_option maxRecDepth 20000 in
theorem gX0_keepOnDisk_X0_putWord : GoodIn wsX0_keepOnDisk (wsV RX0 119 RX0 yX0_putWord wsX0_putWord) := goodIn_app (goodIn_of _ (by decide +kernel)) ggX0_keepOnDisk_X0_putWord
set_option maxRecDepth 20000 in
theorem ggX0_keepOnDisk_X0_writeHomes : GoodIn wsX0_keepOnDisk wsX0_writeHomes := goodIn_r _ [35, 21, 22, 23, 5, 24, 25, 26, 27, 28, 29, 30, 1, 31, 36, 37, 38, 39, 40, 41, 42, 43, 44, 45, 46, 47] (by decide +kernel) (by decide +kernel)
set_option maxRecDepth 20000 in
theorem gX0_keepOnDisk_X0_writeHomes : GoodIn wsX0_keepOnDisk (wsV RX0 164 RX0 yX0_writeHomes wsX0_writeHomes) := goodIn_app (goodIn_of _ (by decide +kernel)) ggX0_keepOnDisk_X0_writeHomes
theorem dX0_keepOnDisk_0 : decode cX0_keepOnDisk 0 = .ok (.aload_n 0, 1) := by decide +kernel
theorem dX0_keepOnDisk_1 : decode cX0_keepOnDisk 1 = .ok (.iconst 0, 1) := by decide +kernel
theorem dX0_keepOnDisk_2 : decode cX0_keepOnDisk 2 = .ok (.invokevirtual 74, 3) := by decide +kernel
theorem dX0_keepOnDisk_5 : decode cX0_keepOnDisk 5 = .ok (.istore_n 1, 1) := by decide +kernel
theorem dX0_keepOnDisk_6 : decode cX0_keepOnDisk 6 = .ok (.iload_n 1, 1) := by decide +kernel
theorem dX0_keepOnDisk_7 : decode cX0_keepOnDisk 7 = .ok (.invokestatic 136, 3) := by decide +kernel
theorem dX0_keepOnDisk_10 : decode cX0_keepOnDisk 10 = .ok (.istore_n 2, 1) := by decide +kernel
theorem dX0_keepOnDisk_11 : decode cX0_keepOnDisk 11 = .ok (.aload_n 0, 1) := by decide +kernel
theorem dX0_keepOnDisk_12 : decode cX0_keepOnDisk 12 = .ok (.iload_n 1, 1) := by decide +kernel
theorem dX0_keepOnDisk_13 : decode cX0_keepOnDisk 13 = .ok (.invokevirtual 161, 3) := by decide +kernel
theorem dX0_keepOnDisk_16 : decode cX0_keepOnDisk 16 = .ok (.aload_n 0, 1) := by decide +kernel
theorem dX0_keepOnDisk_17 : decode cX0_keepOnDisk 17 = .ok (.bipush 33, 2) := by decide +kernel
theorem dX0_keepOnDisk_19 : decode cX0_keepOnDisk 19 = .ok (.aload_n 0, 1) := by decide +kernel
theorem dX0_keepOnDisk_20 : decode cX0_keepOnDisk 20 = .ok (.getfield 9, 3) := by decide +kernel
theorem dX0_keepOnDisk_23 : decode cX0_keepOnDisk 23 = .ok (.bipush 33, 2) := by decide +kernel
theorem dX0_keepOnDisk_25 : decode cX0_keepOnDisk 25 = .ok (.iaload, 1) := by decide +kernel
theorem dX0_keepOnDisk_26 : decode cX0_keepOnDisk 26 = .ok (.iconst 1, 1) := by decide +kernel
theorem dX0_keepOnDisk_27 : decode cX0_keepOnDisk 27 = .ok (.iadd, 1) := by decide +kernel
theorem dX0_keepOnDisk_28 : decode cX0_keepOnDisk 28 = .ok (.invokevirtual 119, 3) := by decide +kernel
theorem dX0_keepOnDisk_31 : decode cX0_keepOnDisk 31 = .ok (.iload_n 2, 1) := by decide +kernel
theorem dX0_keepOnDisk_32 : decode cX0_keepOnDisk 32 = .ok (.ifCond .le 22, 3) := by decide +kernel
theorem dX0_keepOnDisk_35 : decode cX0_keepOnDisk 35 = .ok (.aload_n 0, 1) := by decide +kernel
theorem dX0_keepOnDisk_36 : decode cX0_keepOnDisk 36 = .ok (.bipush 32, 2) := by decide +kernel
theorem dX0_keepOnDisk_38 : decode cX0_keepOnDisk 38 = .ok (.iload_n 2, 1) := by decide +kernel
theorem dX0_keepOnDisk_39 : decode cX0_keepOnDisk 39 = .ok (.invokevirtual 119, 3) := by decide +kernel
theorem dX0_keepOnDisk_42 : decode cX0_keepOnDisk 42 = .ok (.aload_n 0, 1) := by decide +kernel
theorem dX0_keepOnDisk_43 : decode cX0_keepOnDisk 43 = .ok (.iload_n 1, 1) := by decide +kernel
theorem dX0_keepOnDisk_44 : decode cX0_keepOnDisk 44 = .ok (.invokevirtual 164, 3) := by decide +kernel
theorem dX0_keepOnDisk_47 : decode cX0_keepOnDisk 47 = .ok (.aload_n 0, 1) := by decide +kernel
theorem dX0_keepOnDisk_48 : decode cX0_keepOnDisk 48 = .ok (.bipush 32, 2) := by decide +kernel
theorem dX0_keepOnDisk_50 : decode cX0_keepOnDisk 50 = .ok (.iconst 0, 1) := by decide +kernel
theorem dX0_keepOnDisk_51 : decode cX0_keepOnDisk 51 = .ok (.invokevirtual 119, 3) := by decide +kernel
theorem dX0_keepOnDisk_54 : decode cX0_keepOnDisk 54 = .ok (.return_, 1) := by decide +kernel
set_option maxRecDepth 20000 in
theorem ggX0_writeEntries_X0_holds : GoodIn wsX0_writeEntries wsX0_holds := goodIn_r _ [5] (by decide +kernel) (by decide +kernel)
set_option maxRecDepth 20000 in
theorem gX0_writeEntries_X0_holds : GoodIn wsX0_writeEntries (va_wsS RX0 78 yX0_holds wsX0_holds) := goodIn_app (goodIn_of _ (by decide +kernel)) ggX0_writeEntries_X0_holds
set_option maxRecDepth 20000 in
theorem ggX0_writeEntries_X0_putWord : GoodIn wsX0_writeEntries wsX0_putWord := goodIn_r _ [9, 10, 11, 12, 13, 14, 15, 16, 17, 18, 19, 20, 21, 22, 23, 24, 25] (by decide +kernel) (by decide +kernel)
set_option maxRecDepth 20000 in
theorem gX0_writeEntries_X0_putWord : GoodIn wsX0_writeEntries (wsV RX0 119 RX0 yX0_putWord wsX0_putWord) := goodIn_app (goodIn_of _ (by decide +kernel)) ggX0_writeEntries_X0_putWord
theorem dX0_writeEntries_0 : decode cX0_writeEntries 0 = .ok (.bipush 34, 2) := by decide +kernel
theorem dX0_writeEntries_2 : decode cX0_writeEntries 2 = .ok (.istore_n 2, 1) := by decide +kernel
theorem dX0_writeEntries_3 : decode cX0_writeEntries 3 = .ok (.iconst 0, 1) := by decide +kernel
theorem dX0_writeEntries_4 : decode cX0_writeEntries 4 = .ok (.istore_n 3, 1) := by decide +kernel
theorem dX0_writeEntries_5 : decode cX0_writeEntries 5 = .ok (.iload_n 3, 1) := by decide +kernel
theorem dX0_writeEntries_6 : decode cX0_writeEntries 6 = .ok (.bipush 32, 2) := by decide +kernel
theorem dX0_writeEntries_8 : decode cX0_writeEntries 8 = .ok (.if_icmp .ge 39, 3) := by decide +kernel
theorem dX0_writeEntries_11 : decode cX0_writeEntries 11 = .ok (.iload_n 1, 1) := by decide +kernel
theorem dX0_writeEntries_12 : decode cX0_writeEntries 12 = .ok (.iload_n 3, 1) := by decide +kernel
theorem dX0_writeEntries_13 : decode cX0_writeEntries 13 = .ok (.invokestatic 78, 3) := by decide +kernel
theorem dX0_writeEntries_16 : decode cX0_writeEntries 16 = .ok (.ifCond .eq 25, 3) := by decide +kernel
theorem dX0_writeEntries_19 : decode cX0_writeEntries 19 = .ok (.aload_n 0, 1) := by decide +kernel
theorem dX0_writeEntries_20 : decode cX0_writeEntries 20 = .ok (.iload_n 2, 1) := by decide +kernel
theorem dX0_writeEntries_21 : decode cX0_writeEntries 21 = .ok (.iload_n 3, 1) := by decide +kernel
theorem dX0_writeEntries_22 : decode cX0_writeEntries 22 = .ok (.invokevirtual 119, 3) := by decide +kernel
theorem dX0_writeEntries_25 : decode cX0_writeEntries 25 = .ok (.aload_n 0, 1) := by decide +kernel
theorem dX0_writeEntries_26 : decode cX0_writeEntries 26 = .ok (.iload_n 2, 1) := by decide +kernel
theorem dX0_writeEntries_27 : decode cX0_writeEntries 27 = .ok (.iconst 1, 1) := by decide +kernel
theorem dX0_writeEntries_28 : decode cX0_writeEntries 28 = .ok (.iadd, 1) := by decide +kernel
theorem dX0_writeEntries_29 : decode cX0_writeEntries 29 = .ok (.aload_n 0, 1) := by decide +kernel
theorem dX0_writeEntries_30 : decode cX0_writeEntries 30 = .ok (.getfield 13, 3) := by decide +kernel
theorem dX0_writeEntries_33 : decode cX0_writeEntries 33 = .ok (.iload_n 3, 1) := by decide +kernel
theorem dX0_writeEntries_34 : decode cX0_writeEntries 34 = .ok (.iaload, 1) := by decide +kernel
theorem dX0_writeEntries_35 : decode cX0_writeEntries 35 = .ok (.invokevirtual 119, 3) := by decide +kernel
theorem dX0_writeEntries_38 : decode cX0_writeEntries 38 = .ok (.iinc 2 2, 3) := by decide +kernel
theorem dX0_writeEntries_41 : decode cX0_writeEntries 41 = .ok (.iinc 3 1, 3) := by decide +kernel
theorem dX0_writeEntries_44 : decode cX0_writeEntries 44 = .ok (.goto (-39), 3) := by decide +kernel
theorem dX0_writeEntries_47 : decode cX0_writeEntries 47 = .ok (.return_, 1) := by decide +kernel
set_option maxRecDepth 20000 in
theorem ggX0_writeHomes_X0_holds : GoodIn wsX0_writeHomes wsX0_holds := goodIn_r _ [5] (by decide +kernel) (by decide +kernel)
set_option maxRecDepth 20000 in
theorem gX0_writeHomes_X0_holds : GoodIn wsX0_writeHomes (va_wsS RX0 78 yX0_holds wsX0_holds) := goodIn_app (goodIn_of _ (by decide +kernel)) ggX0_writeHomes_X0_holds
set_option maxRecDepth 20000 in
theorem ggX0_writeHomes_X0_putWord : GoodIn wsX0_writeHomes wsX0_putWord := goodIn_r _ [9, 10, 11, 12, 13, 14, 15, 16, 17, 18, 19, 20, 21, 22, 23, 24, 25] (by decide +kernel) (by decide +kernel)
set_option maxRecDepth 20000 in
theorem gX0_writeHomes_X0_putWord : GoodIn wsX0_writeHomes (wsV RX0 119 RX0 yX0_putWord wsX0_putWord) := goodIn_app (goodIn_of _ (by decide +kernel)) ggX0_writeHomes_X0_putWord
theorem dX0_writeHomes_0 : decode cX0_writeHomes 0 = .ok (.iconst 0, 1) := by decide +kernel
theorem dX0_writeHomes_1 : decode cX0_writeHomes 1 = .ok (.istore_n 2, 1) := by decide +kernel
theorem dX0_writeHomes_2 : decode cX0_writeHomes 2 = .ok (.iload_n 2, 1) := by decide +kernel
theorem dX0_writeHomes_3 : decode cX0_writeHomes 3 = .ok (.bipush 32, 2) := by decide +kernel
theorem dX0_writeHomes_5 : decode cX0_writeHomes 5 = .ok (.if_icmp .ge 28, 3) := by decide +kernel
theorem dX0_writeHomes_8 : decode cX0_writeHomes 8 = .ok (.iload_n 1, 1) := by decide +kernel
theorem dX0_writeHomes_9 : decode cX0_writeHomes 9 = .ok (.iload_n 2, 1) := by decide +kernel
theorem dX0_writeHomes_10 : decode cX0_writeHomes 10 = .ok (.invokestatic 78, 3) := by decide +kernel
theorem dX0_writeHomes_13 : decode cX0_writeHomes 13 = .ok (.ifCond .eq 14, 3) := by decide +kernel
theorem dX0_writeHomes_16 : decode cX0_writeHomes 16 = .ok (.aload_n 0, 1) := by decide +kernel
theorem dX0_writeHomes_17 : decode cX0_writeHomes 17 = .ok (.iload_n 2, 1) := by decide +kernel
theorem dX0_writeHomes_18 : decode cX0_writeHomes 18 = .ok (.aload_n 0, 1) := by decide +kernel
theorem dX0_writeHomes_19 : decode cX0_writeHomes 19 = .ok (.getfield 13, 3) := by decide +kernel
theorem dX0_writeHomes_22 : decode cX0_writeHomes 22 = .ok (.iload_n 2, 1) := by decide +kernel
theorem dX0_writeHomes_23 : decode cX0_writeHomes 23 = .ok (.iaload, 1) := by decide +kernel
theorem dX0_writeHomes_24 : decode cX0_writeHomes 24 = .ok (.invokevirtual 119, 3) := by decide +kernel
theorem dX0_writeHomes_27 : decode cX0_writeHomes 27 = .ok (.iinc 2 1, 3) := by decide +kernel
theorem dX0_writeHomes_30 : decode cX0_writeHomes 30 = .ok (.goto (-28), 3) := by decide +kernel
theorem dX0_writeHomes_33 : decode cX0_writeHomes 33 = .ok (.return_, 1) := by decide +kernel
set_option maxRecDepth 20000 in
theorem ggX0_writeHomesFromEntries_X0_isCell : GoodIn wsX0_writeHomesFromEntries wsX0_isCell := goodIn_r _ [5] (by decide +kernel) (by decide +kernel)
set_option maxRecDepth 20000 in
theorem gX0_writeHomesFromEntries_X0_isCell : GoodIn wsX0_writeHomesFromEntries (va_wsS RX0 149 yX0_isCell wsX0_isCell) := goodIn_app (goodIn_of _ (by decide +kernel)) ggX0_writeHomesFromEntries_X0_isCell
set_option maxRecDepth 20000 in
theorem ggX0_writeHomesFromEntries_X0_putWord : GoodIn wsX0_writeHomesFromEntries wsX0_putWord := goodIn_r _ [9, 10, 11, 1, 12, 13, 14, 15, 16, 17, 18, 19, 20, 21, 22, 23, 24] (by decide +kernel) (by decide +kernel)
set_option maxRecDepth 20000 in
theorem gX0_writeHomesFromEntries_X0_putWord : GoodIn wsX0_writeHomesFromEntries (wsV RX0 119 RX0 yX0_putWord wsX0_putWord) := goodIn_app (goodIn_of _ (by decide +kernel)) ggX0_writeHomesFromEntries_X0_putWord
theorem dX0_writeHomesFromEntries_0 : decode cX0_writeHomesFromEntries 0 = .ok (.iconst 0, 1) := by decide +kernel
theorem dX0_writeHomesFromEntries_1 : decode cX0_writeHomesFromEntries 1 = .ok (.istore_n 2, 1) := by decide +kernel
theorem dX0_writeHomesFromEntries_2 : decode cX0_writeHomesFromEntries 2 = .ok (.iconst 0, 1) := by decide +kernel
theorem dX0_writeHomesFromEntries_3 : decode cX0_writeHomesFromEntries 3 = .ok (.istore_n 3, 1) := by decide +kernel
theorem dX0_writeHomesFromEntries_4 : decode cX0_writeHomesFromEntries 4 = .ok (.iload_n 3, 1) := by decide +kernel
theorem dX0_writeHomesFromEntries_5 : decode cX0_writeHomesFromEntries 5 = .ok (.iload_n 1, 1) := by decide +kernel
theorem dX0_writeHomesFromEntries_6 : decode cX0_writeHomesFromEntries 6 = .ok (.if_icmp .ge 52, 3) := by decide +kernel
theorem dX0_writeHomesFromEntries_9 : decode cX0_writeHomesFromEntries 9 = .ok (.aload_n 0, 1) := by decide +kernel
theorem dX0_writeHomesFromEntries_10 : decode cX0_writeHomesFromEntries 10 = .ok (.getfield 9, 3) := by decide +kernel
theorem dX0_writeHomesFromEntries_13 : decode cX0_writeHomesFromEntries 13 = .ok (.bipush 34, 2) := by decide +kernel
theorem dX0_writeHomesFromEntries_15 : decode cX0_writeHomesFromEntries 15 = .ok (.iconst 2, 1) := by decide +kernel
theorem dX0_writeHomesFromEntries_16 : decode cX0_writeHomesFromEntries 16 = .ok (.iload_n 3, 1) := by decide +kernel
theorem dX0_writeHomesFromEntries_17 : decode cX0_writeHomesFromEntries 17 = .ok (.imul, 1) := by decide +kernel
theorem dX0_writeHomesFromEntries_18 : decode cX0_writeHomesFromEntries 18 = .ok (.iadd, 1) := by decide +kernel
theorem dX0_writeHomesFromEntries_19 : decode cX0_writeHomesFromEntries 19 = .ok (.iaload, 1) := by decide +kernel
theorem dX0_writeHomesFromEntries_20 : decode cX0_writeHomesFromEntries 20 = .ok (.istore 4, 2) := by decide +kernel
theorem dX0_writeHomesFromEntries_22 : decode cX0_writeHomesFromEntries 22 = .ok (.iload 4, 2) := by decide +kernel
theorem dX0_writeHomesFromEntries_24 : decode cX0_writeHomesFromEntries 24 = .ok (.invokestatic 149, 3) := by decide +kernel
theorem dX0_writeHomesFromEntries_27 : decode cX0_writeHomesFromEntries 27 = .ok (.ifCond .eq 25, 3) := by decide +kernel
theorem dX0_writeHomesFromEntries_30 : decode cX0_writeHomesFromEntries 30 = .ok (.aload_n 0, 1) := by decide +kernel
theorem dX0_writeHomesFromEntries_31 : decode cX0_writeHomesFromEntries 31 = .ok (.iload 4, 2) := by decide +kernel
theorem dX0_writeHomesFromEntries_33 : decode cX0_writeHomesFromEntries 33 = .ok (.aload_n 0, 1) := by decide +kernel
theorem dX0_writeHomesFromEntries_34 : decode cX0_writeHomesFromEntries 34 = .ok (.getfield 9, 3) := by decide +kernel
theorem dX0_writeHomesFromEntries_37 : decode cX0_writeHomesFromEntries 37 = .ok (.bipush 34, 2) := by decide +kernel
theorem dX0_writeHomesFromEntries_39 : decode cX0_writeHomesFromEntries 39 = .ok (.iconst 2, 1) := by decide +kernel
theorem dX0_writeHomesFromEntries_40 : decode cX0_writeHomesFromEntries 40 = .ok (.iload_n 3, 1) := by decide +kernel
theorem dX0_writeHomesFromEntries_41 : decode cX0_writeHomesFromEntries 41 = .ok (.imul, 1) := by decide +kernel
theorem dX0_writeHomesFromEntries_42 : decode cX0_writeHomesFromEntries 42 = .ok (.iadd, 1) := by decide +kernel
theorem dX0_writeHomesFromEntries_43 : decode cX0_writeHomesFromEntries 43 = .ok (.iconst 1, 1) := by decide +kernel
theorem dX0_writeHomesFromEntries_44 : decode cX0_writeHomesFromEntries 44 = .ok (.iadd, 1) := by decide +kernel
theorem dX0_writeHomesFromEntries_45 : decode cX0_writeHomesFromEntries 45 = .ok (.iaload, 1) := by decide +kernel
theorem dX0_writeHomesFromEntries_46 : decode cX0_writeHomesFromEntries 46 = .ok (.invokevirtual 119, 3) := by decide +kernel
theorem dX0_writeHomesFromEntries_49 : decode cX0_writeHomesFromEntries 49 = .ok (.iinc 2 1, 3) := by decide +kernel
theorem dX0_writeHomesFromEntries_52 : decode cX0_writeHomesFromEntries 52 = .ok (.iinc 3 1, 3) := by decide +kernel
theorem dX0_writeHomesFromEntries_55 : decode cX0_writeHomesFromEntries 55 = .ok (.goto (-51), 3) := by decide +kernel
theorem dX0_writeHomesFromEntries_58 : decode cX0_writeHomesFromEntries 58 = .ok (.iload_n 2, 1) := by decide +kernel
theorem dX0_writeHomesFromEntries_59 : decode cX0_writeHomesFromEntries 59 = .ok (.ireturn, 1) := by decide +kernel
theorem dX0_putWord_0 : decode cX0_putWord 0 = .ok (.aload_n 0, 1) := by decide +kernel
theorem dX0_putWord_1 : decode cX0_putWord 1 = .ok (.getfield 44, 3) := by decide +kernel
theorem dX0_putWord_4 : decode cX0_putWord 4 = .ok (.ifCond .eq 4, 3) := by decide +kernel
theorem dX0_putWord_7 : decode cX0_putWord 7 = .ok (.return_, 1) := by decide +kernel
theorem dX0_putWord_8 : decode cX0_putWord 8 = .ok (.aload_n 0, 1) := by decide +kernel
theorem dX0_putWord_9 : decode cX0_putWord 9 = .ok (.getfield 37, 3) := by decide +kernel
theorem dX0_putWord_12 : decode cX0_putWord 12 = .ok (.iconst 1, 1) := by decide +kernel
theorem dX0_putWord_13 : decode cX0_putWord 13 = .ok (.if_icmp .ne 14, 3) := by decide +kernel
theorem dX0_putWord_16 : decode cX0_putWord 16 = .ok (.aload_n 0, 1) := by decide +kernel
theorem dX0_putWord_17 : decode cX0_putWord 17 = .ok (.iconst 0, 1) := by decide +kernel
theorem dX0_putWord_18 : decode cX0_putWord 18 = .ok (.putfield 37, 3) := by decide +kernel
theorem dX0_putWord_21 : decode cX0_putWord 21 = .ok (.aload_n 0, 1) := by decide +kernel
theorem dX0_putWord_22 : decode cX0_putWord 22 = .ok (.iconst 1, 1) := by decide +kernel
theorem dX0_putWord_23 : decode cX0_putWord 23 = .ok (.putfield 44, 3) := by decide +kernel
theorem dX0_putWord_26 : decode cX0_putWord 26 = .ok (.return_, 1) := by decide +kernel
theorem dX0_putWord_27 : decode cX0_putWord 27 = .ok (.aload_n 0, 1) := by decide +kernel
theorem dX0_putWord_28 : decode cX0_putWord 28 = .ok (.getfield 37, 3) := by decide +kernel
theorem dX0_putWord_31 : decode cX0_putWord 31 = .ok (.iconst 1, 1) := by decide +kernel
theorem dX0_putWord_32 : decode cX0_putWord 32 = .ok (.if_icmp .le 13, 3) := by decide +kernel
theorem dX0_putWord_35 : decode cX0_putWord 35 = .ok (.aload_n 0, 1) := by decide +kernel
theorem dX0_putWord_36 : decode cX0_putWord 36 = .ok (.dup, 1) := by decide +kernel
theorem dX0_putWord_37 : decode cX0_putWord 37 = .ok (.getfield 37, 3) := by decide +kernel
theorem dX0_putWord_40 : decode cX0_putWord 40 = .ok (.iconst 1, 1) := by decide +kernel
theorem dX0_putWord_41 : decode cX0_putWord 41 = .ok (.isub, 1) := by decide +kernel
theorem dX0_putWord_42 : decode cX0_putWord 42 = .ok (.putfield 37, 3) := by decide +kernel
theorem dX0_putWord_45 : decode cX0_putWord 45 = .ok (.aload_n 0, 1) := by decide +kernel
theorem dX0_putWord_46 : decode cX0_putWord 46 = .ok (.getfield 9, 3) := by decide +kernel
theorem dX0_putWord_49 : decode cX0_putWord 49 = .ok (.iload_n 1, 1) := by decide +kernel
theorem dX0_putWord_50 : decode cX0_putWord 50 = .ok (.iload_n 2, 1) := by decide +kernel
theorem dX0_putWord_51 : decode cX0_putWord 51 = .ok (.iastore, 1) := by decide +kernel
theorem dX0_putWord_52 : decode cX0_putWord 52 = .ok (.aload_n 0, 1) := by decide +kernel
theorem dX0_putWord_53 : decode cX0_putWord 53 = .ok (.dup, 1) := by decide +kernel
theorem dX0_putWord_54 : decode cX0_putWord 54 = .ok (.getfield 41, 3) := by decide +kernel
theorem dX0_putWord_57 : decode cX0_putWord 57 = .ok (.iconst 1, 1) := by decide +kernel
theorem dX0_putWord_58 : decode cX0_putWord 58 = .ok (.iadd, 1) := by decide +kernel
theorem dX0_putWord_59 : decode cX0_putWord 59 = .ok (.putfield 41, 3) := by decide +kernel
theorem dX0_putWord_62 : decode cX0_putWord 62 = .ok (.return_, 1) := by decide +kernel
theorem dX1_init_0 : decode cX1_init 0 = .ok (.aload_n 0, 1) := by decide +kernel
theorem dX1_init_1 : decode cX1_init 1 = .ok (.invokespecial 1, 3) := by decide +kernel
theorem dX1_init_4 : decode cX1_init 4 = .ok (.aload_n 0, 1) := by decide +kernel
theorem dX1_init_5 : decode cX1_init 5 = .ok (.bipush 32, 2) := by decide +kernel
theorem dX1_init_7 : decode cX1_init 7 = .ok (.newarray .int, 2) := by decide +kernel
theorem dX1_init_9 : decode cX1_init 9 = .ok (.putfield 7, 3) := by decide +kernel
theorem dX1_init_12 : decode cX1_init 12 = .ok (.aload_n 0, 1) := by decide +kernel
theorem dX1_init_13 : decode cX1_init 13 = .ok (.bipush 98, 2) := by decide +kernel
theorem dX1_init_15 : decode cX1_init 15 = .ok (.newarray .int, 2) := by decide +kernel
theorem dX1_init_17 : decode cX1_init 17 = .ok (.putfield 13, 3) := by decide +kernel
theorem dX1_init_20 : decode cX1_init 20 = .ok (.aload_n 0, 1) := by decide +kernel
theorem dX1_init_21 : decode cX1_init 21 = .ok (.sipush 2880, 3) := by decide +kernel
theorem dX1_init_24 : decode cX1_init 24 = .ok (.newarray .int, 2) := by decide +kernel
theorem dX1_init_26 : decode cX1_init 26 = .ok (.putfield 16, 3) := by decide +kernel
theorem dX1_init_29 : decode cX1_init 29 = .ok (.aload_n 0, 1) := by decide +kernel
theorem dX1_init_30 : decode cX1_init 30 = .ok (.bipush 90, 2) := by decide +kernel
theorem dX1_init_32 : decode cX1_init 32 = .ok (.newarray .int, 2) := by decide +kernel
theorem dX1_init_34 : decode cX1_init 34 = .ok (.putfield 19, 3) := by decide +kernel
theorem dX1_init_37 : decode cX1_init 37 = .ok (.aload_n 0, 1) := by decide +kernel
theorem dX1_init_38 : decode cX1_init 38 = .ok (.bipush 90, 2) := by decide +kernel
theorem dX1_init_40 : decode cX1_init 40 = .ok (.newarray .int, 2) := by decide +kernel
theorem dX1_init_42 : decode cX1_init 42 = .ok (.putfield 22, 3) := by decide +kernel
theorem dX1_init_45 : decode cX1_init 45 = .ok (.return_, 1) := by decide +kernel
theorem dX1_thrown_0 : decode cX1_thrown 0 = .ok (.aload_n 0, 1) := by decide +kernel
theorem dX1_thrown_1 : decode cX1_thrown 1 = .ok (.getfield 25, 3) := by decide +kernel
theorem dX1_thrown_4 : decode cX1_thrown 4 = .ok (.ireturn, 1) := by decide +kernel
theorem dX1_refuses_0 : decode cX1_refuses 0 = .ok (.aload_n 0, 1) := by decide +kernel
theorem dX1_refuses_1 : decode cX1_refuses 1 = .ok (.iload_n 1, 1) := by decide +kernel
theorem dX1_refuses_2 : decode cX1_refuses 2 = .ok (.putfield 25, 3) := by decide +kernel
theorem dX1_refuses_5 : decode cX1_refuses 5 = .ok (.iload_n 1, 1) := by decide +kernel
theorem dX1_refuses_6 : decode cX1_refuses 6 = .ok (.ifCond .le 7, 3) := by decide +kernel
theorem dX1_refuses_9 : decode cX1_refuses 9 = .ok (.iconst 1, 1) := by decide +kernel
theorem dX1_refuses_10 : decode cX1_refuses 10 = .ok (.goto 4, 3) := by decide +kernel
theorem dX1_refuses_13 : decode cX1_refuses 13 = .ok (.iconst 0, 1) := by decide +kernel
theorem dX1_refuses_14 : decode cX1_refuses 14 = .ok (.ireturn, 1) := by decide +kernel
theorem dX1_bits_0 : decode cX1_bits 0 = .ok (.iconst 0, 1) := by decide +kernel
theorem dX1_bits_1 : decode cX1_bits 1 = .ok (.istore_n 1, 1) := by decide +kernel
theorem dX1_bits_2 : decode cX1_bits 2 = .ok (.iconst 0, 1) := by decide +kernel
theorem dX1_bits_3 : decode cX1_bits 3 = .ok (.istore_n 2, 1) := by decide +kernel
theorem dX1_bits_4 : decode cX1_bits 4 = .ok (.iload_n 2, 1) := by decide +kernel
theorem dX1_bits_5 : decode cX1_bits 5 = .ok (.bipush 32, 2) := by decide +kernel
theorem dX1_bits_7 : decode cX1_bits 7 = .ok (.if_icmp .ge 17, 3) := by decide +kernel
theorem dX1_bits_10 : decode cX1_bits 10 = .ok (.iload_n 1, 1) := by decide +kernel
theorem dX1_bits_11 : decode cX1_bits 11 = .ok (.iload_n 0, 1) := by decide +kernel
theorem dX1_bits_12 : decode cX1_bits 12 = .ok (.iload_n 2, 1) := by decide +kernel
theorem dX1_bits_13 : decode cX1_bits 13 = .ok (.ishr, 1) := by decide +kernel
theorem dX1_bits_14 : decode cX1_bits 14 = .ok (.iconst 1, 1) := by decide +kernel
theorem dX1_bits_15 : decode cX1_bits 15 = .ok (.iand, 1) := by decide +kernel
theorem dX1_bits_16 : decode cX1_bits 16 = .ok (.iadd, 1) := by decide +kernel
theorem dX1_bits_17 : decode cX1_bits 17 = .ok (.istore_n 1, 1) := by decide +kernel
theorem dX1_bits_18 : decode cX1_bits 18 = .ok (.iinc 2 1, 3) := by decide +kernel
theorem dX1_bits_21 : decode cX1_bits 21 = .ok (.goto (-17), 3) := by decide +kernel
theorem dX1_bits_24 : decode cX1_bits 24 = .ok (.iload_n 1, 1) := by decide +kernel
theorem dX1_bits_25 : decode cX1_bits 25 = .ok (.ireturn, 1) := by decide +kernel
set_option maxRecDepth 20000 in
theorem ggX1_traces_X1_bits : GoodIn wsX1_traces wsX1_bits := goodIn_r _ [6] (by decide +kernel) (by decide +kernel)
set_option maxRecDepth 20000 in
theorem gX1_traces_X1_bits : GoodIn wsX1_traces (va_wsS RX1 32 yX1_bits wsX1_bits) := goodIn_app (goodIn_of _ (by decide +kernel)) ggX1_traces_X1_bits
theorem dX1_traces_0 : decode cX1_traces 0 = .ok (.iconst 0, 1) := by decide +kernel
theorem dX1_traces_1 : decode cX1_traces 1 = .ok (.istore_n 1, 1) := by decide +kernel
theorem dX1_traces_2 : decode cX1_traces 2 = .ok (.iconst 0, 1) := by decide +kernel
theorem dX1_traces_3 : decode cX1_traces 3 = .ok (.istore_n 2, 1) := by decide +kernel
theorem dX1_traces_4 : decode cX1_traces 4 = .ok (.iload_n 2, 1) := by decide +kernel
theorem dX1_traces_5 : decode cX1_traces 5 = .ok (.aload_n 0, 1) := by decide +kernel
theorem dX1_traces_6 : decode cX1_traces 6 = .ok (.getfield 29, 3) := by decide +kernel
theorem dX1_traces_9 : decode cX1_traces 9 = .ok (.if_icmp .ge 21, 3) := by decide +kernel
theorem dX1_traces_12 : decode cX1_traces 12 = .ok (.iload_n 1, 1) := by decide +kernel
theorem dX1_traces_13 : decode cX1_traces 13 = .ok (.aload_n 0, 1) := by decide +kernel
theorem dX1_traces_14 : decode cX1_traces 14 = .ok (.getfield 19, 3) := by decide +kernel
theorem dX1_traces_17 : decode cX1_traces 17 = .ok (.iload_n 2, 1) := by decide +kernel
theorem dX1_traces_18 : decode cX1_traces 18 = .ok (.iaload, 1) := by decide +kernel
theorem dX1_traces_19 : decode cX1_traces 19 = .ok (.invokestatic 32, 3) := by decide +kernel
theorem dX1_traces_22 : decode cX1_traces 22 = .ok (.iadd, 1) := by decide +kernel
theorem dX1_traces_23 : decode cX1_traces 23 = .ok (.istore_n 1, 1) := by decide +kernel
theorem dX1_traces_24 : decode cX1_traces 24 = .ok (.iinc 2 1, 3) := by decide +kernel
theorem dX1_traces_27 : decode cX1_traces 27 = .ok (.goto (-23), 3) := by decide +kernel
theorem dX1_traces_30 : decode cX1_traces 30 = .ok (.iload_n 1, 1) := by decide +kernel
theorem dX1_traces_31 : decode cX1_traces 31 = .ok (.ireturn, 1) := by decide +kernel
theorem dX1_isCell_0 : decode cX1_isCell 0 = .ok (.iload_n 0, 1) := by decide +kernel
theorem dX1_isCell_1 : decode cX1_isCell 1 = .ok (.ifCond .lt 13, 3) := by decide +kernel
theorem dX1_isCell_4 : decode cX1_isCell 4 = .ok (.iload_n 0, 1) := by decide +kernel
theorem dX1_isCell_5 : decode cX1_isCell 5 = .ok (.bipush 32, 2) := by decide +kernel
theorem dX1_isCell_7 : decode cX1_isCell 7 = .ok (.if_icmp .ge 7, 3) := by decide +kernel
theorem dX1_isCell_10 : decode cX1_isCell 10 = .ok (.iconst 1, 1) := by decide +kernel
theorem dX1_isCell_11 : decode cX1_isCell 11 = .ok (.goto 4, 3) := by decide +kernel
theorem dX1_isCell_14 : decode cX1_isCell 14 = .ok (.iconst 0, 1) := by decide +kernel
theorem dX1_isCell_15 : decode cX1_isCell 15 = .ok (.ireturn, 1) := by decide +kernel
theorem dX1_opens_0 : decode cX1_opens 0 = .ok (.iconst 0, 1) := by decide +kernel
theorem dX1_opens_1 : decode cX1_opens 1 = .ok (.istore_n 2, 1) := by decide +kernel
theorem dX1_opens_2 : decode cX1_opens 2 = .ok (.iload_n 2, 1) := by decide +kernel
theorem dX1_opens_3 : decode cX1_opens 3 = .ok (.bipush 32, 2) := by decide +kernel
theorem dX1_opens_5 : decode cX1_opens 5 = .ok (.if_icmp .ge 29, 3) := by decide +kernel
theorem dX1_opens_8 : decode cX1_opens 8 = .ok (.aload_n 0, 1) := by decide +kernel
theorem dX1_opens_9 : decode cX1_opens 9 = .ok (.getfield 16, 3) := by decide +kernel
theorem dX1_opens_12 : decode cX1_opens 12 = .ok (.bipush 32, 2) := by decide +kernel
theorem dX1_opens_14 : decode cX1_opens 14 = .ok (.aload_n 0, 1) := by decide +kernel
theorem dX1_opens_15 : decode cX1_opens 15 = .ok (.getfield 29, 3) := by decide +kernel
theorem dX1_opens_18 : decode cX1_opens 18 = .ok (.imul, 1) := by decide +kernel
theorem dX1_opens_19 : decode cX1_opens 19 = .ok (.iload_n 2, 1) := by decide +kernel
theorem dX1_opens_20 : decode cX1_opens 20 = .ok (.iadd, 1) := by decide +kernel
theorem dX1_opens_21 : decode cX1_opens 21 = .ok (.aload_n 0, 1) := by decide +kernel
theorem dX1_opens_22 : decode cX1_opens 22 = .ok (.getfield 7, 3) := by decide +kernel
theorem dX1_opens_25 : decode cX1_opens 25 = .ok (.iload_n 2, 1) := by decide +kernel
theorem dX1_opens_26 : decode cX1_opens 26 = .ok (.iaload, 1) := by decide +kernel
theorem dX1_opens_27 : decode cX1_opens 27 = .ok (.iastore, 1) := by decide +kernel
theorem dX1_opens_28 : decode cX1_opens 28 = .ok (.iinc 2 1, 3) := by decide +kernel
theorem dX1_opens_31 : decode cX1_opens 31 = .ok (.goto (-29), 3) := by decide +kernel
theorem dX1_opens_34 : decode cX1_opens 34 = .ok (.aload_n 0, 1) := by decide +kernel
theorem dX1_opens_35 : decode cX1_opens 35 = .ok (.getfield 19, 3) := by decide +kernel
theorem dX1_opens_38 : decode cX1_opens 38 = .ok (.aload_n 0, 1) := by decide +kernel
theorem dX1_opens_39 : decode cX1_opens 39 = .ok (.getfield 29, 3) := by decide +kernel
theorem dX1_opens_42 : decode cX1_opens 42 = .ok (.iconst 0, 1) := by decide +kernel
theorem dX1_opens_43 : decode cX1_opens 43 = .ok (.iastore, 1) := by decide +kernel
theorem dX1_opens_44 : decode cX1_opens 44 = .ok (.aload_n 0, 1) := by decide +kernel
theorem dX1_opens_45 : decode cX1_opens 45 = .ok (.getfield 22, 3) := by decide +kernel
theorem dX1_opens_48 : decode cX1_opens 48 = .ok (.aload_n 0, 1) := by decide +kernel
theorem dX1_opens_49 : decode cX1_opens 49 = .ok (.getfield 29, 3) := by decide +kernel
theorem dX1_opens_52 : decode cX1_opens 52 = .ok (.iload_n 1, 1) := by decide +kernel
theorem dX1_opens_53 : decode cX1_opens 53 = .ok (.iastore, 1) := by decide +kernel
theorem dX1_opens_54 : decode cX1_opens 54 = .ok (.aload_n 0, 1) := by decide +kernel
theorem dX1_opens_55 : decode cX1_opens 55 = .ok (.dup, 1) := by decide +kernel
theorem dX1_opens_56 : decode cX1_opens 56 = .ok (.getfield 29, 3) := by decide +kernel
theorem dX1_opens_59 : decode cX1_opens 59 = .ok (.iconst 1, 1) := by decide +kernel
theorem dX1_opens_60 : decode cX1_opens 60 = .ok (.iadd, 1) := by decide +kernel
theorem dX1_opens_61 : decode cX1_opens 61 = .ok (.putfield 29, 3) := by decide +kernel
theorem dX1_opens_64 : decode cX1_opens 64 = .ok (.return_, 1) := by decide +kernel
theorem dX1_first_0 : decode cX1_first 0 = .ok (.aload_n 0, 1) := by decide +kernel
theorem dX1_first_1 : decode cX1_first 1 = .ok (.getfield 29, 3) := by decide +kernel
theorem dX1_first_4 : decode cX1_first 4 = .ok (.iconst 1, 1) := by decide +kernel
theorem dX1_first_5 : decode cX1_first 5 = .ok (.isub, 1) := by decide +kernel
theorem dX1_first_6 : decode cX1_first 6 = .ok (.istore_n 1, 1) := by decide +kernel
theorem dX1_first_7 : decode cX1_first 7 = .ok (.aload_n 0, 1) := by decide +kernel
theorem dX1_first_8 : decode cX1_first 8 = .ok (.getfield 22, 3) := by decide +kernel
theorem dX1_first_11 : decode cX1_first 11 = .ok (.iload_n 1, 1) := by decide +kernel
theorem dX1_first_12 : decode cX1_first 12 = .ok (.iaload, 1) := by decide +kernel
theorem dX1_first_13 : decode cX1_first 13 = .ok (.iconst (-1), 1) := by decide +kernel
theorem dX1_first_14 : decode cX1_first 14 = .ok (.if_icmp .eq 9, 3) := by decide +kernel
theorem dX1_first_17 : decode cX1_first 17 = .ok (.iinc 1 (-1), 3) := by decide +kernel
theorem dX1_first_20 : decode cX1_first 20 = .ok (.goto (-13), 3) := by decide +kernel
theorem dX1_first_23 : decode cX1_first 23 = .ok (.iload_n 1, 1) := by decide +kernel
theorem dX1_first_24 : decode cX1_first 24 = .ok (.ireturn, 1) := by decide +kernel
theorem dX1_find_0 : decode cX1_find 0 = .ok (.aload_n 0, 1) := by decide +kernel
theorem dX1_find_1 : decode cX1_find 1 = .ok (.getfield 29, 3) := by decide +kernel
theorem dX1_find_4 : decode cX1_find 4 = .ok (.iconst 1, 1) := by decide +kernel
theorem dX1_find_5 : decode cX1_find 5 = .ok (.isub, 1) := by decide +kernel
theorem dX1_find_6 : decode cX1_find 6 = .ok (.istore_n 2, 1) := by decide +kernel
theorem dX1_find_7 : decode cX1_find 7 = .ok (.aload_n 0, 1) := by decide +kernel
theorem dX1_find_8 : decode cX1_find 8 = .ok (.getfield 22, 3) := by decide +kernel
theorem dX1_find_11 : decode cX1_find 11 = .ok (.iload_n 2, 1) := by decide +kernel
theorem dX1_find_12 : decode cX1_find 12 = .ok (.iaload, 1) := by decide +kernel
theorem dX1_find_13 : decode cX1_find 13 = .ok (.iconst (-1), 1) := by decide +kernel
theorem dX1_find_14 : decode cX1_find 14 = .ok (.if_icmp .eq 19, 3) := by decide +kernel
theorem dX1_find_17 : decode cX1_find 17 = .ok (.aload_n 0, 1) := by decide +kernel
theorem dX1_find_18 : decode cX1_find 18 = .ok (.getfield 22, 3) := by decide +kernel
theorem dX1_find_21 : decode cX1_find 21 = .ok (.iload_n 2, 1) := by decide +kernel
theorem dX1_find_22 : decode cX1_find 22 = .ok (.iaload, 1) := by decide +kernel
theorem dX1_find_23 : decode cX1_find 23 = .ok (.iload_n 1, 1) := by decide +kernel
theorem dX1_find_24 : decode cX1_find 24 = .ok (.if_icmp .eq 9, 3) := by decide +kernel
theorem dX1_find_27 : decode cX1_find 27 = .ok (.iinc 2 (-1), 3) := by decide +kernel
theorem dX1_find_30 : decode cX1_find 30 = .ok (.goto (-23), 3) := by decide +kernel
theorem dX1_find_33 : decode cX1_find 33 = .ok (.aload_n 0, 1) := by decide +kernel
theorem dX1_find_34 : decode cX1_find 34 = .ok (.getfield 22, 3) := by decide +kernel
theorem dX1_find_37 : decode cX1_find 37 = .ok (.iload_n 2, 1) := by decide +kernel
theorem dX1_find_38 : decode cX1_find 38 = .ok (.iaload, 1) := by decide +kernel
theorem dX1_find_39 : decode cX1_find 39 = .ok (.iload_n 1, 1) := by decide +kernel
theorem dX1_find_40 : decode cX1_find 40 = .ok (.if_icmp .ne 7, 3) := by decide +kernel
theorem dX1_find_43 : decode cX1_find 43 = .ok (.iload_n 2, 1) := by decide +kernel
theorem dX1_find_44 : decode cX1_find 44 = .ok (.goto 4, 3) := by decide +kernel
theorem dX1_find_47 : decode cX1_find 47 = .ok (.iconst (-1), 1) := by decide +kernel
theorem dX1_find_48 : decode cX1_find 48 = .ok (.ireturn, 1) := by decide +kernel
theorem dX1_melts_0 : decode cX1_melts 0 = .ok (.iload_n 1, 1) := by decide +kernel
theorem dX1_melts_1 : decode cX1_melts 1 = .ok (.ifCond .le 20, 3) := by decide +kernel
theorem dX1_melts_4 : decode cX1_melts 4 = .ok (.aload_n 0, 1) := by decide +kernel
theorem dX1_melts_5 : decode cX1_melts 5 = .ok (.getfield 19, 3) := by decide +kernel
theorem dX1_melts_8 : decode cX1_melts 8 = .ok (.iload_n 1, 1) := by decide +kernel
theorem dX1_melts_9 : decode cX1_melts 9 = .ok (.iconst 1, 1) := by decide +kernel
theorem dX1_melts_10 : decode cX1_melts 10 = .ok (.isub, 1) := by decide +kernel
theorem dX1_melts_11 : decode cX1_melts 11 = .ok (.dup2, 1) := by decide +kernel
theorem dX1_melts_12 : decode cX1_melts 12 = .ok (.iaload, 1) := by decide +kernel
theorem dX1_melts_13 : decode cX1_melts 13 = .ok (.aload_n 0, 1) := by decide +kernel
theorem dX1_melts_14 : decode cX1_melts 14 = .ok (.getfield 19, 3) := by decide +kernel
theorem dX1_melts_17 : decode cX1_melts 17 = .ok (.iload_n 1, 1) := by decide +kernel
theorem dX1_melts_18 : decode cX1_melts 18 = .ok (.iaload, 1) := by decide +kernel
theorem dX1_melts_19 : decode cX1_melts 19 = .ok (.ior, 1) := by decide +kernel
theorem dX1_melts_20 : decode cX1_melts 20 = .ok (.iastore, 1) := by decide +kernel
theorem dX1_melts_21 : decode cX1_melts 21 = .ok (.iload_n 1, 1) := by decide +kernel
theorem dX1_melts_22 : decode cX1_melts 22 = .ok (.istore_n 2, 1) := by decide +kernel
theorem dX1_melts_23 : decode cX1_melts 23 = .ok (.iload_n 2, 1) := by decide +kernel
theorem dX1_melts_24 : decode cX1_melts 24 = .ok (.iconst 1, 1) := by decide +kernel
theorem dX1_melts_25 : decode cX1_melts 25 = .ok (.iadd, 1) := by decide +kernel
theorem dX1_melts_26 : decode cX1_melts 26 = .ok (.aload_n 0, 1) := by decide +kernel
theorem dX1_melts_27 : decode cX1_melts 27 = .ok (.getfield 29, 3) := by decide +kernel
theorem dX1_melts_30 : decode cX1_melts 30 = .ok (.if_icmp .ge 75, 3) := by decide +kernel
theorem dX1_melts_33 : decode cX1_melts 33 = .ok (.aload_n 0, 1) := by decide +kernel
theorem dX1_melts_34 : decode cX1_melts 34 = .ok (.getfield 19, 3) := by decide +kernel
theorem dX1_melts_37 : decode cX1_melts 37 = .ok (.iload_n 2, 1) := by decide +kernel
theorem dX1_melts_38 : decode cX1_melts 38 = .ok (.aload_n 0, 1) := by decide +kernel
theorem dX1_melts_39 : decode cX1_melts 39 = .ok (.getfield 19, 3) := by decide +kernel
theorem dX1_melts_42 : decode cX1_melts 42 = .ok (.iload_n 2, 1) := by decide +kernel
theorem dX1_melts_43 : decode cX1_melts 43 = .ok (.iconst 1, 1) := by decide +kernel
theorem dX1_melts_44 : decode cX1_melts 44 = .ok (.iadd, 1) := by decide +kernel
theorem dX1_melts_45 : decode cX1_melts 45 = .ok (.iaload, 1) := by decide +kernel
theorem dX1_melts_46 : decode cX1_melts 46 = .ok (.iastore, 1) := by decide +kernel
theorem dX1_melts_47 : decode cX1_melts 47 = .ok (.aload_n 0, 1) := by decide +kernel
theorem dX1_melts_48 : decode cX1_melts 48 = .ok (.getfield 22, 3) := by decide +kernel
theorem dX1_melts_51 : decode cX1_melts 51 = .ok (.iload_n 2, 1) := by decide +kernel
theorem dX1_melts_52 : decode cX1_melts 52 = .ok (.aload_n 0, 1) := by decide +kernel
theorem dX1_melts_53 : decode cX1_melts 53 = .ok (.getfield 22, 3) := by decide +kernel
theorem dX1_melts_56 : decode cX1_melts 56 = .ok (.iload_n 2, 1) := by decide +kernel
theorem dX1_melts_57 : decode cX1_melts 57 = .ok (.iconst 1, 1) := by decide +kernel
theorem dX1_melts_58 : decode cX1_melts 58 = .ok (.iadd, 1) := by decide +kernel
theorem dX1_melts_59 : decode cX1_melts 59 = .ok (.iaload, 1) := by decide +kernel
theorem dX1_melts_60 : decode cX1_melts 60 = .ok (.iastore, 1) := by decide +kernel
theorem dX1_melts_61 : decode cX1_melts 61 = .ok (.iconst 0, 1) := by decide +kernel
theorem dX1_melts_62 : decode cX1_melts 62 = .ok (.istore_n 3, 1) := by decide +kernel
theorem dX1_melts_63 : decode cX1_melts 63 = .ok (.iload_n 3, 1) := by decide +kernel
theorem dX1_melts_64 : decode cX1_melts 64 = .ok (.bipush 32, 2) := by decide +kernel
theorem dX1_melts_66 : decode cX1_melts 66 = .ok (.if_icmp .ge 33, 3) := by decide +kernel
theorem dX1_melts_69 : decode cX1_melts 69 = .ok (.aload_n 0, 1) := by decide +kernel
theorem dX1_melts_70 : decode cX1_melts 70 = .ok (.getfield 16, 3) := by decide +kernel
theorem dX1_melts_73 : decode cX1_melts 73 = .ok (.bipush 32, 2) := by decide +kernel
theorem dX1_melts_75 : decode cX1_melts 75 = .ok (.iload_n 2, 1) := by decide +kernel
theorem dX1_melts_76 : decode cX1_melts 76 = .ok (.imul, 1) := by decide +kernel
theorem dX1_melts_77 : decode cX1_melts 77 = .ok (.iload_n 3, 1) := by decide +kernel
theorem dX1_melts_78 : decode cX1_melts 78 = .ok (.iadd, 1) := by decide +kernel
theorem dX1_melts_79 : decode cX1_melts 79 = .ok (.aload_n 0, 1) := by decide +kernel
theorem dX1_melts_80 : decode cX1_melts 80 = .ok (.getfield 16, 3) := by decide +kernel
theorem dX1_melts_83 : decode cX1_melts 83 = .ok (.bipush 32, 2) := by decide +kernel
theorem dX1_melts_85 : decode cX1_melts 85 = .ok (.iload_n 2, 1) := by decide +kernel
theorem dX1_melts_86 : decode cX1_melts 86 = .ok (.iconst 1, 1) := by decide +kernel
theorem dX1_melts_87 : decode cX1_melts 87 = .ok (.iadd, 1) := by decide +kernel
theorem dX1_melts_88 : decode cX1_melts 88 = .ok (.imul, 1) := by decide +kernel
theorem dX1_melts_89 : decode cX1_melts 89 = .ok (.iload_n 3, 1) := by decide +kernel
theorem dX1_melts_90 : decode cX1_melts 90 = .ok (.iadd, 1) := by decide +kernel
theorem dX1_melts_91 : decode cX1_melts 91 = .ok (.iaload, 1) := by decide +kernel
theorem dX1_melts_92 : decode cX1_melts 92 = .ok (.iastore, 1) := by decide +kernel
theorem dX1_melts_93 : decode cX1_melts 93 = .ok (.iinc 3 1, 3) := by decide +kernel
theorem dX1_melts_96 : decode cX1_melts 96 = .ok (.goto (-33), 3) := by decide +kernel
theorem dX1_melts_99 : decode cX1_melts 99 = .ok (.iinc 2 1, 3) := by decide +kernel
theorem dX1_melts_102 : decode cX1_melts 102 = .ok (.goto (-79), 3) := by decide +kernel
theorem dX1_melts_105 : decode cX1_melts 105 = .ok (.aload_n 0, 1) := by decide +kernel
theorem dX1_melts_106 : decode cX1_melts 106 = .ok (.dup, 1) := by decide +kernel
theorem dX1_melts_107 : decode cX1_melts 107 = .ok (.getfield 29, 3) := by decide +kernel
theorem dX1_melts_110 : decode cX1_melts 110 = .ok (.iconst 1, 1) := by decide +kernel
theorem dX1_melts_111 : decode cX1_melts 111 = .ok (.isub, 1) := by decide +kernel
theorem dX1_melts_112 : decode cX1_melts 112 = .ok (.putfield 29, 3) := by decide +kernel
theorem dX1_melts_115 : decode cX1_melts 115 = .ok (.return_, 1) := by decide +kernel
set_option maxRecDepth 20000 in
theorem ggX1_returns_X1_bits : GoodIn wsX1_returns wsX1_bits := goodIn_r _ [8] (by decide +kernel) (by decide +kernel)
set_option maxRecDepth 20000 in
theorem gX1_returns_X1_bits : GoodIn wsX1_returns (va_wsS RX1 32 yX1_bits wsX1_bits) := goodIn_app (goodIn_of _ (by decide +kernel)) ggX1_returns_X1_bits
theorem dX1_returns_0 : decode cX1_returns 0 = .ok (.iconst 0, 1) := by decide +kernel
theorem dX1_returns_1 : decode cX1_returns 1 = .ok (.istore_n 2, 1) := by decide +kernel
theorem dX1_returns_2 : decode cX1_returns 2 = .ok (.iload_n 1, 1) := by decide +kernel
theorem dX1_returns_3 : decode cX1_returns 3 = .ok (.istore_n 3, 1) := by decide +kernel
theorem dX1_returns_4 : decode cX1_returns 4 = .ok (.iload_n 3, 1) := by decide +kernel
theorem dX1_returns_5 : decode cX1_returns 5 = .ok (.aload_n 0, 1) := by decide +kernel
theorem dX1_returns_6 : decode cX1_returns 6 = .ok (.getfield 29, 3) := by decide +kernel
theorem dX1_returns_9 : decode cX1_returns 9 = .ok (.if_icmp .ge 21, 3) := by decide +kernel
theorem dX1_returns_12 : decode cX1_returns 12 = .ok (.iload_n 2, 1) := by decide +kernel
theorem dX1_returns_13 : decode cX1_returns 13 = .ok (.aload_n 0, 1) := by decide +kernel
theorem dX1_returns_14 : decode cX1_returns 14 = .ok (.getfield 19, 3) := by decide +kernel
theorem dX1_returns_17 : decode cX1_returns 17 = .ok (.iload_n 3, 1) := by decide +kernel
theorem dX1_returns_18 : decode cX1_returns 18 = .ok (.iaload, 1) := by decide +kernel
theorem dX1_returns_19 : decode cX1_returns 19 = .ok (.invokestatic 32, 3) := by decide +kernel
theorem dX1_returns_22 : decode cX1_returns 22 = .ok (.iadd, 1) := by decide +kernel
theorem dX1_returns_23 : decode cX1_returns 23 = .ok (.istore_n 2, 1) := by decide +kernel
theorem dX1_returns_24 : decode cX1_returns 24 = .ok (.iinc 3 1, 3) := by decide +kernel
theorem dX1_returns_27 : decode cX1_returns 27 = .ok (.goto (-23), 3) := by decide +kernel
theorem dX1_returns_30 : decode cX1_returns 30 = .ok (.iconst 0, 1) := by decide +kernel
theorem dX1_returns_31 : decode cX1_returns 31 = .ok (.istore_n 3, 1) := by decide +kernel
theorem dX1_returns_32 : decode cX1_returns 32 = .ok (.iload_n 3, 1) := by decide +kernel
theorem dX1_returns_33 : decode cX1_returns 33 = .ok (.bipush 32, 2) := by decide +kernel
theorem dX1_returns_35 : decode cX1_returns 35 = .ok (.if_icmp .ge 26, 3) := by decide +kernel
theorem dX1_returns_38 : decode cX1_returns 38 = .ok (.aload_n 0, 1) := by decide +kernel
theorem dX1_returns_39 : decode cX1_returns 39 = .ok (.getfield 7, 3) := by decide +kernel
theorem dX1_returns_42 : decode cX1_returns 42 = .ok (.iload_n 3, 1) := by decide +kernel
theorem dX1_returns_43 : decode cX1_returns 43 = .ok (.aload_n 0, 1) := by decide +kernel
theorem dX1_returns_44 : decode cX1_returns 44 = .ok (.getfield 16, 3) := by decide +kernel
theorem dX1_returns_47 : decode cX1_returns 47 = .ok (.bipush 32, 2) := by decide +kernel
theorem dX1_returns_49 : decode cX1_returns 49 = .ok (.iload_n 1, 1) := by decide +kernel
theorem dX1_returns_50 : decode cX1_returns 50 = .ok (.imul, 1) := by decide +kernel
theorem dX1_returns_51 : decode cX1_returns 51 = .ok (.iload_n 3, 1) := by decide +kernel
theorem dX1_returns_52 : decode cX1_returns 52 = .ok (.iadd, 1) := by decide +kernel
theorem dX1_returns_53 : decode cX1_returns 53 = .ok (.iaload, 1) := by decide +kernel
theorem dX1_returns_54 : decode cX1_returns 54 = .ok (.iastore, 1) := by decide +kernel
theorem dX1_returns_55 : decode cX1_returns 55 = .ok (.iinc 3 1, 3) := by decide +kernel
theorem dX1_returns_58 : decode cX1_returns 58 = .ok (.goto (-26), 3) := by decide +kernel
theorem dX1_returns_61 : decode cX1_returns 61 = .ok (.iload_n 2, 1) := by decide +kernel
theorem dX1_returns_62 : decode cX1_returns 62 = .ok (.ireturn, 1) := by decide +kernel
theorem dX1_format_0 : decode cX1_format 0 = .ok (.aload_n 0, 1) := by decide +kernel
theorem dX1_format_1 : decode cX1_format 1 = .ok (.iconst 0, 1) := by decide +kernel
theorem dX1_format_2 : decode cX1_format 2 = .ok (.putfield 25, 3) := by decide +kernel
theorem dX1_format_5 : decode cX1_format 5 = .ok (.iconst 0, 1) := by decide +kernel
theorem dX1_format_6 : decode cX1_format 6 = .ok (.istore_n 1, 1) := by decide +kernel
theorem dX1_format_7 : decode cX1_format 7 = .ok (.iload_n 1, 1) := by decide +kernel
theorem dX1_format_8 : decode cX1_format 8 = .ok (.bipush 32, 2) := by decide +kernel
theorem dX1_format_10 : decode cX1_format 10 = .ok (.if_icmp .ge 16, 3) := by decide +kernel
theorem dX1_format_13 : decode cX1_format 13 = .ok (.aload_n 0, 1) := by decide +kernel
theorem dX1_format_14 : decode cX1_format 14 = .ok (.getfield 7, 3) := by decide +kernel
theorem dX1_format_17 : decode cX1_format 17 = .ok (.iload_n 1, 1) := by decide +kernel
theorem dX1_format_18 : decode cX1_format 18 = .ok (.iconst 0, 1) := by decide +kernel
theorem dX1_format_19 : decode cX1_format 19 = .ok (.iastore, 1) := by decide +kernel
theorem dX1_format_20 : decode cX1_format 20 = .ok (.iinc 1 1, 3) := by decide +kernel
theorem dX1_format_23 : decode cX1_format 23 = .ok (.goto (-16), 3) := by decide +kernel
theorem dX1_format_26 : decode cX1_format 26 = .ok (.iconst 0, 1) := by decide +kernel
theorem dX1_format_27 : decode cX1_format 27 = .ok (.istore_n 1, 1) := by decide +kernel
theorem dX1_format_28 : decode cX1_format 28 = .ok (.iload_n 1, 1) := by decide +kernel
theorem dX1_format_29 : decode cX1_format 29 = .ok (.bipush 98, 2) := by decide +kernel
theorem dX1_format_31 : decode cX1_format 31 = .ok (.if_icmp .ge 16, 3) := by decide +kernel
theorem dX1_format_34 : decode cX1_format 34 = .ok (.aload_n 0, 1) := by decide +kernel
theorem dX1_format_35 : decode cX1_format 35 = .ok (.getfield 13, 3) := by decide +kernel
theorem dX1_format_38 : decode cX1_format 38 = .ok (.iload_n 1, 1) := by decide +kernel
theorem dX1_format_39 : decode cX1_format 39 = .ok (.iconst 0, 1) := by decide +kernel
theorem dX1_format_40 : decode cX1_format 40 = .ok (.iastore, 1) := by decide +kernel
theorem dX1_format_41 : decode cX1_format 41 = .ok (.iinc 1 1, 3) := by decide +kernel
theorem dX1_format_44 : decode cX1_format 44 = .ok (.goto (-16), 3) := by decide +kernel
theorem dX1_format_47 : decode cX1_format 47 = .ok (.aload_n 0, 1) := by decide +kernel
theorem dX1_format_48 : decode cX1_format 48 = .ok (.iconst 0, 1) := by decide +kernel
theorem dX1_format_49 : decode cX1_format 49 = .ok (.putfield 29, 3) := by decide +kernel
theorem dX1_format_52 : decode cX1_format 52 = .ok (.aload_n 0, 1) := by decide +kernel
theorem dX1_format_53 : decode cX1_format 53 = .ok (.iconst 0, 1) := by decide +kernel
theorem dX1_format_54 : decode cX1_format 54 = .ok (.putfield 36, 3) := by decide +kernel
theorem dX1_format_57 : decode cX1_format 57 = .ok (.aload_n 0, 1) := by decide +kernel
theorem dX1_format_58 : decode cX1_format 58 = .ok (.iconst 0, 1) := by decide +kernel
theorem dX1_format_59 : decode cX1_format 59 = .ok (.putfield 39, 3) := by decide +kernel
theorem dX1_format_62 : decode cX1_format 62 = .ok (.aload_n 0, 1) := by decide +kernel
theorem dX1_format_63 : decode cX1_format 63 = .ok (.iconst 0, 1) := by decide +kernel
theorem dX1_format_64 : decode cX1_format 64 = .ok (.putfield 43, 3) := by decide +kernel
theorem dX1_format_67 : decode cX1_format 67 = .ok (.aload_n 0, 1) := by decide +kernel
theorem dX1_format_68 : decode cX1_format 68 = .ok (.iconst 0, 1) := by decide +kernel
theorem dX1_format_69 : decode cX1_format 69 = .ok (.putfield 46, 3) := by decide +kernel
theorem dX1_format_72 : decode cX1_format 72 = .ok (.return_, 1) := by decide +kernel
set_option maxRecDepth 20000 in
theorem ggX1_begin_X1_refuses : GoodIn wsX1_begin wsX1_refuses := goodIn_r _ [7, 8, 18, 19, 20, 21, 22, 23, 24, 25, 26, 27, 28] (by decide +kernel) (by decide +kernel)
set_option maxRecDepth 20000 in
theorem gX1_begin_X1_refuses : GoodIn wsX1_begin (wsV RX1 49 RX1 yX1_refuses wsX1_refuses) := goodIn_app (goodIn_of _ (by decide +kernel)) ggX1_begin_X1_refuses
set_option maxRecDepth 20000 in
theorem ggX1_begin_X1_opens : GoodIn wsX1_begin wsX1_opens := goodIn_r _ [12, 13, 14, 15, 16, 17, 18, 19, 20, 21, 22, 23, 24, 25, 26, 27, 28] (by decide +kernel) (by decide +kernel)
set_option maxRecDepth 20000 in
theorem gX1_begin_X1_opens : GoodIn wsX1_begin (wsV RX1 53 RX1 yX1_opens wsX1_opens) := goodIn_app (goodIn_of _ (by decide +kernel)) ggX1_begin_X1_opens
theorem dX1_begin_0 : decode cX1_begin 0 = .ok (.aload_n 0, 1) := by decide +kernel
theorem dX1_begin_1 : decode cX1_begin 1 = .ok (.aload_n 0, 1) := by decide +kernel
theorem dX1_begin_2 : decode cX1_begin 2 = .ok (.getfield 39, 3) := by decide +kernel
theorem dX1_begin_5 : decode cX1_begin 5 = .ok (.ifCond .ne 12, 3) := by decide +kernel
theorem dX1_begin_8 : decode cX1_begin 8 = .ok (.aload_n 0, 1) := by decide +kernel
theorem dX1_begin_9 : decode cX1_begin 9 = .ok (.getfield 36, 3) := by decide +kernel
theorem dX1_begin_12 : decode cX1_begin 12 = .ok (.bipush 8, 2) := by decide +kernel
theorem dX1_begin_14 : decode cX1_begin 14 = .ok (.if_icmp .ne 7, 3) := by decide +kernel
theorem dX1_begin_17 : decode cX1_begin 17 = .ok (.iconst 1, 1) := by decide +kernel
theorem dX1_begin_18 : decode cX1_begin 18 = .ok (.goto 4, 3) := by decide +kernel
theorem dX1_begin_21 : decode cX1_begin 21 = .ok (.iconst 0, 1) := by decide +kernel
theorem dX1_begin_22 : decode cX1_begin 22 = .ok (.invokevirtual 49, 3) := by decide +kernel
theorem dX1_begin_25 : decode cX1_begin 25 = .ok (.ifCond .eq 5, 3) := by decide +kernel
theorem dX1_begin_28 : decode cX1_begin 28 = .ok (.iconst 0, 1) := by decide +kernel
theorem dX1_begin_29 : decode cX1_begin 29 = .ok (.ireturn, 1) := by decide +kernel
theorem dX1_begin_30 : decode cX1_begin 30 = .ok (.aload_n 0, 1) := by decide +kernel
theorem dX1_begin_31 : decode cX1_begin 31 = .ok (.iconst (-1), 1) := by decide +kernel
theorem dX1_begin_32 : decode cX1_begin 32 = .ok (.invokevirtual 53, 3) := by decide +kernel
theorem dX1_begin_35 : decode cX1_begin 35 = .ok (.aload_n 0, 1) := by decide +kernel
theorem dX1_begin_36 : decode cX1_begin 36 = .ok (.dup, 1) := by decide +kernel
theorem dX1_begin_37 : decode cX1_begin 37 = .ok (.getfield 36, 3) := by decide +kernel
theorem dX1_begin_40 : decode cX1_begin 40 = .ok (.iconst 1, 1) := by decide +kernel
theorem dX1_begin_41 : decode cX1_begin 41 = .ok (.iadd, 1) := by decide +kernel
theorem dX1_begin_42 : decode cX1_begin 42 = .ok (.putfield 36, 3) := by decide +kernel
theorem dX1_begin_45 : decode cX1_begin 45 = .ok (.aload_n 0, 1) := by decide +kernel
theorem dX1_begin_46 : decode cX1_begin 46 = .ok (.getfield 36, 3) := by decide +kernel
theorem dX1_begin_49 : decode cX1_begin 49 = .ok (.ireturn, 1) := by decide +kernel
set_option maxRecDepth 20000 in
theorem ggX1_write_X1_isCell : GoodIn wsX1_write wsX1_isCell := goodIn_r _ [9] (by decide +kernel) (by decide +kernel)
set_option maxRecDepth 20000 in
theorem gX1_write_X1_isCell : GoodIn wsX1_write (va_wsS RX1 57 yX1_isCell wsX1_isCell) := goodIn_app (goodIn_of _ (by decide +kernel)) ggX1_write_X1_isCell
set_option maxRecDepth 20000 in
theorem ggX1_write_X1_refuses : GoodIn wsX1_write wsX1_refuses := goodIn_r _ [13, 14, 22, 23, 24, 25, 26, 27, 28, 29, 30, 31, 32] (by decide +kernel) (by decide +kernel)
set_option maxRecDepth 20000 in
theorem gX1_write_X1_refuses : GoodIn wsX1_write (wsV RX1 49 RX1 yX1_refuses wsX1_refuses) := goodIn_app (goodIn_of _ (by decide +kernel)) ggX1_write_X1_refuses
set_option maxRecDepth 20000 in
theorem ggX1_write_X1_traces : GoodIn wsX1_write wsX1_traces := goodIn_r _ [18, 3, 4, 19, 20, 8, 21, 22, 23, 24, 25, 26, 27, 28, 29, 30, 31, 32] (by decide +kernel) (by decide +kernel)
set_option maxRecDepth 20000 in
theorem gX1_write_X1_traces : GoodIn wsX1_write (wsV RX1 60 RX1 yX1_traces wsX1_traces) := goodIn_app (goodIn_of _ (by decide +kernel)) ggX1_write_X1_traces
theorem dX1_write_0 : decode cX1_write 0 = .ok (.aload_n 0, 1) := by decide +kernel
theorem dX1_write_1 : decode cX1_write 1 = .ok (.iload_n 1, 1) := by decide +kernel
theorem dX1_write_2 : decode cX1_write 2 = .ok (.invokestatic 57, 3) := by decide +kernel
theorem dX1_write_5 : decode cX1_write 5 = .ok (.ifCond .ne 7, 3) := by decide +kernel
theorem dX1_write_8 : decode cX1_write 8 = .ok (.iconst 1, 1) := by decide +kernel
theorem dX1_write_9 : decode cX1_write 9 = .ok (.goto 22, 3) := by decide +kernel
theorem dX1_write_12 : decode cX1_write 12 = .ok (.aload_n 0, 1) := by decide +kernel
theorem dX1_write_13 : decode cX1_write 13 = .ok (.getfield 39, 3) := by decide +kernel
theorem dX1_write_16 : decode cX1_write 16 = .ok (.ifCond .ne 10, 3) := by decide +kernel
theorem dX1_write_19 : decode cX1_write 19 = .ok (.aload_n 0, 1) := by decide +kernel
theorem dX1_write_20 : decode cX1_write 20 = .ok (.getfield 36, 3) := by decide +kernel
theorem dX1_write_23 : decode cX1_write 23 = .ok (.ifCond .ne 7, 3) := by decide +kernel
theorem dX1_write_26 : decode cX1_write 26 = .ok (.iconst 2, 1) := by decide +kernel
theorem dX1_write_27 : decode cX1_write 27 = .ok (.goto 4, 3) := by decide +kernel
theorem dX1_write_30 : decode cX1_write 30 = .ok (.iconst 0, 1) := by decide +kernel
theorem dX1_write_31 : decode cX1_write 31 = .ok (.invokevirtual 49, 3) := by decide +kernel
theorem dX1_write_34 : decode cX1_write 34 = .ok (.ifCond .eq 5, 3) := by decide +kernel
theorem dX1_write_37 : decode cX1_write 37 = .ok (.iconst 0, 1) := by decide +kernel
theorem dX1_write_38 : decode cX1_write 38 = .ok (.ireturn, 1) := by decide +kernel
theorem dX1_write_39 : decode cX1_write 39 = .ok (.aload_n 0, 1) := by decide +kernel
theorem dX1_write_40 : decode cX1_write 40 = .ok (.getfield 29, 3) := by decide +kernel
theorem dX1_write_43 : decode cX1_write 43 = .ok (.iconst 1, 1) := by decide +kernel
theorem dX1_write_44 : decode cX1_write 44 = .ok (.isub, 1) := by decide +kernel
theorem dX1_write_45 : decode cX1_write 45 = .ok (.istore_n 3, 1) := by decide +kernel
theorem dX1_write_46 : decode cX1_write 46 = .ok (.aload_n 0, 1) := by decide +kernel
theorem dX1_write_47 : decode cX1_write 47 = .ok (.getfield 19, 3) := by decide +kernel
theorem dX1_write_50 : decode cX1_write 50 = .ok (.iload_n 3, 1) := by decide +kernel
theorem dX1_write_51 : decode cX1_write 51 = .ok (.iaload, 1) := by decide +kernel
theorem dX1_write_52 : decode cX1_write 52 = .ok (.iload_n 1, 1) := by decide +kernel
theorem dX1_write_53 : decode cX1_write 53 = .ok (.ishr, 1) := by decide +kernel
theorem dX1_write_54 : decode cX1_write 54 = .ok (.iconst 1, 1) := by decide +kernel
theorem dX1_write_55 : decode cX1_write 55 = .ok (.iand, 1) := by decide +kernel
theorem dX1_write_56 : decode cX1_write 56 = .ok (.iconst 1, 1) := by decide +kernel
theorem dX1_write_57 : decode cX1_write 57 = .ok (.if_icmp .ne 7, 3) := by decide +kernel
theorem dX1_write_60 : decode cX1_write 60 = .ok (.iconst 1, 1) := by decide +kernel
theorem dX1_write_61 : decode cX1_write 61 = .ok (.goto 4, 3) := by decide +kernel
theorem dX1_write_64 : decode cX1_write 64 = .ok (.iconst 0, 1) := by decide +kernel
theorem dX1_write_65 : decode cX1_write 65 = .ok (.istore 4, 2) := by decide +kernel
theorem dX1_write_67 : decode cX1_write 67 = .ok (.aload_n 0, 1) := by decide +kernel
theorem dX1_write_68 : decode cX1_write 68 = .ok (.iload 4, 2) := by decide +kernel
theorem dX1_write_70 : decode cX1_write 70 = .ok (.ifCond .ne 16, 3) := by decide +kernel
theorem dX1_write_73 : decode cX1_write 73 = .ok (.aload_n 0, 1) := by decide +kernel
theorem dX1_write_74 : decode cX1_write 74 = .ok (.invokevirtual 60, 3) := by decide +kernel
theorem dX1_write_77 : decode cX1_write 77 = .ok (.bipush 60, 2) := by decide +kernel
theorem dX1_write_79 : decode cX1_write 79 = .ok (.if_icmp .ne 7, 3) := by decide +kernel
theorem dX1_write_82 : decode cX1_write 82 = .ok (.iconst 2, 1) := by decide +kernel
theorem dX1_write_83 : decode cX1_write 83 = .ok (.goto 4, 3) := by decide +kernel
theorem dX1_write_86 : decode cX1_write 86 = .ok (.iconst 0, 1) := by decide +kernel
theorem dX1_write_87 : decode cX1_write 87 = .ok (.invokevirtual 49, 3) := by decide +kernel
theorem dX1_write_90 : decode cX1_write 90 = .ok (.ifCond .eq 5, 3) := by decide +kernel
theorem dX1_write_93 : decode cX1_write 93 = .ok (.iconst 0, 1) := by decide +kernel
theorem dX1_write_94 : decode cX1_write 94 = .ok (.ireturn, 1) := by decide +kernel
theorem dX1_write_95 : decode cX1_write 95 = .ok (.aload_n 0, 1) := by decide +kernel
theorem dX1_write_96 : decode cX1_write 96 = .ok (.getfield 7, 3) := by decide +kernel
theorem dX1_write_99 : decode cX1_write 99 = .ok (.iload_n 1, 1) := by decide +kernel
theorem dX1_write_100 : decode cX1_write 100 = .ok (.iaload, 1) := by decide +kernel
theorem dX1_write_101 : decode cX1_write 101 = .ok (.istore 5, 2) := by decide +kernel
theorem dX1_write_103 : decode cX1_write 103 = .ok (.aload_n 0, 1) := by decide +kernel
theorem dX1_write_104 : decode cX1_write 104 = .ok (.getfield 19, 3) := by decide +kernel
theorem dX1_write_107 : decode cX1_write 107 = .ok (.iload_n 3, 1) := by decide +kernel
theorem dX1_write_108 : decode cX1_write 108 = .ok (.dup2, 1) := by decide +kernel
theorem dX1_write_109 : decode cX1_write 109 = .ok (.iaload, 1) := by decide +kernel
theorem dX1_write_110 : decode cX1_write 110 = .ok (.iconst 1, 1) := by decide +kernel
theorem dX1_write_111 : decode cX1_write 111 = .ok (.iload_n 1, 1) := by decide +kernel
theorem dX1_write_112 : decode cX1_write 112 = .ok (.ishl, 1) := by decide +kernel
theorem dX1_write_113 : decode cX1_write 113 = .ok (.ior, 1) := by decide +kernel
theorem dX1_write_114 : decode cX1_write 114 = .ok (.iastore, 1) := by decide +kernel
theorem dX1_write_115 : decode cX1_write 115 = .ok (.aload_n 0, 1) := by decide +kernel
theorem dX1_write_116 : decode cX1_write 116 = .ok (.getfield 7, 3) := by decide +kernel
theorem dX1_write_119 : decode cX1_write 119 = .ok (.iload_n 1, 1) := by decide +kernel
theorem dX1_write_120 : decode cX1_write 120 = .ok (.iload_n 2, 1) := by decide +kernel
theorem dX1_write_121 : decode cX1_write 121 = .ok (.iastore, 1) := by decide +kernel
theorem dX1_write_122 : decode cX1_write 122 = .ok (.iload 5, 2) := by decide +kernel
theorem dX1_write_124 : decode cX1_write 124 = .ok (.ireturn, 1) := by decide +kernel
set_option maxRecDepth 20000 in
theorem ggX1_read_X1_isCell : GoodIn wsX1_read wsX1_isCell := goodIn_r _ [6] (by decide +kernel) (by decide +kernel)
set_option maxRecDepth 20000 in
theorem gX1_read_X1_isCell : GoodIn wsX1_read (va_wsS RX1 57 yX1_isCell wsX1_isCell) := goodIn_app (goodIn_of _ (by decide +kernel)) ggX1_read_X1_isCell
set_option maxRecDepth 20000 in
theorem ggX1_read_X1_refuses : GoodIn wsX1_read wsX1_refuses := goodIn_r _ [10, 11, 12, 13, 14, 15, 16, 17, 18, 19, 20, 21, 22] (by decide +kernel) (by decide +kernel)
set_option maxRecDepth 20000 in
theorem gX1_read_X1_refuses : GoodIn wsX1_read (wsV RX1 49 RX1 yX1_refuses wsX1_refuses) := goodIn_app (goodIn_of _ (by decide +kernel)) ggX1_read_X1_refuses
theorem dX1_read_0 : decode cX1_read 0 = .ok (.aload_n 0, 1) := by decide +kernel
theorem dX1_read_1 : decode cX1_read 1 = .ok (.iload_n 1, 1) := by decide +kernel
theorem dX1_read_2 : decode cX1_read 2 = .ok (.invokestatic 57, 3) := by decide +kernel
theorem dX1_read_5 : decode cX1_read 5 = .ok (.ifCond .ne 7, 3) := by decide +kernel
theorem dX1_read_8 : decode cX1_read 8 = .ok (.iconst 1, 1) := by decide +kernel
theorem dX1_read_9 : decode cX1_read 9 = .ok (.goto 15, 3) := by decide +kernel
theorem dX1_read_12 : decode cX1_read 12 = .ok (.aload_n 0, 1) := by decide +kernel
theorem dX1_read_13 : decode cX1_read 13 = .ok (.getfield 39, 3) := by decide +kernel
theorem dX1_read_16 : decode cX1_read 16 = .ok (.ifCond .eq 7, 3) := by decide +kernel
theorem dX1_read_19 : decode cX1_read 19 = .ok (.iconst 2, 1) := by decide +kernel
theorem dX1_read_20 : decode cX1_read 20 = .ok (.goto 4, 3) := by decide +kernel
theorem dX1_read_23 : decode cX1_read 23 = .ok (.iconst 0, 1) := by decide +kernel
theorem dX1_read_24 : decode cX1_read 24 = .ok (.invokevirtual 49, 3) := by decide +kernel
theorem dX1_read_27 : decode cX1_read 27 = .ok (.ifCond .eq 7, 3) := by decide +kernel
theorem dX1_read_30 : decode cX1_read 30 = .ok (.iconst 0, 1) := by decide +kernel
theorem dX1_read_31 : decode cX1_read 31 = .ok (.goto 9, 3) := by decide +kernel
theorem dX1_read_34 : decode cX1_read 34 = .ok (.aload_n 0, 1) := by decide +kernel
theorem dX1_read_35 : decode cX1_read 35 = .ok (.getfield 7, 3) := by decide +kernel
theorem dX1_read_38 : decode cX1_read 38 = .ok (.iload_n 1, 1) := by decide +kernel
theorem dX1_read_39 : decode cX1_read 39 = .ok (.iaload, 1) := by decide +kernel
theorem dX1_read_40 : decode cX1_read 40 = .ok (.ireturn, 1) := by decide +kernel
theorem dX1_puts_0 : decode cX1_puts 0 = .ok (.aload_n 0, 1) := by decide +kernel
theorem dX1_puts_1 : decode cX1_puts 1 = .ok (.getfield 43, 3) := by decide +kernel
theorem dX1_puts_4 : decode cX1_puts 4 = .ok (.iconst 1, 1) := by decide +kernel
theorem dX1_puts_5 : decode cX1_puts 5 = .ok (.if_icmp .ne 25, 3) := by decide +kernel
theorem dX1_puts_8 : decode cX1_puts 8 = .ok (.aload_n 0, 1) := by decide +kernel
theorem dX1_puts_9 : decode cX1_puts 9 = .ok (.iconst 0, 1) := by decide +kernel
theorem dX1_puts_10 : decode cX1_puts 10 = .ok (.putfield 43, 3) := by decide +kernel
theorem dX1_puts_13 : decode cX1_puts 13 = .ok (.aload_n 0, 1) := by decide +kernel
theorem dX1_puts_14 : decode cX1_puts 14 = .ok (.iconst 1, 1) := by decide +kernel
theorem dX1_puts_15 : decode cX1_puts 15 = .ok (.putfield 39, 3) := by decide +kernel
theorem dX1_puts_18 : decode cX1_puts 18 = .ok (.aload_n 0, 1) := by decide +kernel
theorem dX1_puts_19 : decode cX1_puts 19 = .ok (.iconst 0, 1) := by decide +kernel
theorem dX1_puts_20 : decode cX1_puts 20 = .ok (.putfield 29, 3) := by decide +kernel
theorem dX1_puts_23 : decode cX1_puts 23 = .ok (.aload_n 0, 1) := by decide +kernel
theorem dX1_puts_24 : decode cX1_puts 24 = .ok (.iconst 0, 1) := by decide +kernel
theorem dX1_puts_25 : decode cX1_puts 25 = .ok (.putfield 36, 3) := by decide +kernel
theorem dX1_puts_28 : decode cX1_puts 28 = .ok (.iconst 0, 1) := by decide +kernel
theorem dX1_puts_29 : decode cX1_puts 29 = .ok (.ireturn, 1) := by decide +kernel
theorem dX1_puts_30 : decode cX1_puts 30 = .ok (.aload_n 0, 1) := by decide +kernel
theorem dX1_puts_31 : decode cX1_puts 31 = .ok (.dup, 1) := by decide +kernel
theorem dX1_puts_32 : decode cX1_puts 32 = .ok (.getfield 43, 3) := by decide +kernel
theorem dX1_puts_35 : decode cX1_puts 35 = .ok (.aload_n 0, 1) := by decide +kernel
theorem dX1_puts_36 : decode cX1_puts 36 = .ok (.getfield 43, 3) := by decide +kernel
theorem dX1_puts_39 : decode cX1_puts 39 = .ok (.ifCond .le 7, 3) := by decide +kernel
theorem dX1_puts_42 : decode cX1_puts 42 = .ok (.iconst 1, 1) := by decide +kernel
theorem dX1_puts_43 : decode cX1_puts 43 = .ok (.goto 4, 3) := by decide +kernel
theorem dX1_puts_46 : decode cX1_puts 46 = .ok (.iconst 0, 1) := by decide +kernel
theorem dX1_puts_47 : decode cX1_puts 47 = .ok (.isub, 1) := by decide +kernel
theorem dX1_puts_48 : decode cX1_puts 48 = .ok (.putfield 43, 3) := by decide +kernel
theorem dX1_puts_51 : decode cX1_puts 51 = .ok (.aload_n 0, 1) := by decide +kernel
theorem dX1_puts_52 : decode cX1_puts 52 = .ok (.getfield 13, 3) := by decide +kernel
theorem dX1_puts_55 : decode cX1_puts 55 = .ok (.iload_n 1, 1) := by decide +kernel
theorem dX1_puts_56 : decode cX1_puts 56 = .ok (.iload_n 2, 1) := by decide +kernel
theorem dX1_puts_57 : decode cX1_puts 57 = .ok (.iastore, 1) := by decide +kernel
theorem dX1_puts_58 : decode cX1_puts 58 = .ok (.aload_n 0, 1) := by decide +kernel
theorem dX1_puts_59 : decode cX1_puts 59 = .ok (.dup, 1) := by decide +kernel
theorem dX1_puts_60 : decode cX1_puts 60 = .ok (.getfield 46, 3) := by decide +kernel
theorem dX1_puts_63 : decode cX1_puts 63 = .ok (.iconst 1, 1) := by decide +kernel
theorem dX1_puts_64 : decode cX1_puts 64 = .ok (.iadd, 1) := by decide +kernel
theorem dX1_puts_65 : decode cX1_puts 65 = .ok (.putfield 46, 3) := by decide +kernel
theorem dX1_puts_68 : decode cX1_puts 68 = .ok (.iconst 1, 1) := by decide +kernel
theorem dX1_puts_69 : decode cX1_puts 69 = .ok (.ireturn, 1) := by decide +kernel
set_option maxRecDepth 20000 in
theorem ggX1_stores_X1_puts : GoodIn wsX1_stores wsX1_puts := goodIn_r _ [7, 8, 9, 10, 11, 2, 12, 13, 14, 15, 16, 17, 18, 19, 20, 21, 22, 23] (by decide +kernel) (by decide +kernel)
set_option maxRecDepth 20000 in
theorem gX1_stores_X1_puts : GoodIn wsX1_stores (wsV RX1 64 RX1 yX1_puts wsX1_puts) := goodIn_app (goodIn_of _ (by decide +kernel)) ggX1_stores_X1_puts
theorem dX1_stores_0 : decode cX1_stores 0 = .ok (.iconst 0, 1) := by decide +kernel
theorem dX1_stores_1 : decode cX1_stores 1 = .ok (.istore_n 2, 1) := by decide +kernel
theorem dX1_stores_2 : decode cX1_stores 2 = .ok (.iconst 0, 1) := by decide +kernel
theorem dX1_stores_3 : decode cX1_stores 3 = .ok (.istore_n 3, 1) := by decide +kernel
theorem dX1_stores_4 : decode cX1_stores 4 = .ok (.iload_n 3, 1) := by decide +kernel
theorem dX1_stores_5 : decode cX1_stores 5 = .ok (.bipush 32, 2) := by decide +kernel
theorem dX1_stores_7 : decode cX1_stores 7 = .ok (.if_icmp .ge 58, 3) := by decide +kernel
theorem dX1_stores_10 : decode cX1_stores 10 = .ok (.iload_n 1, 1) := by decide +kernel
theorem dX1_stores_11 : decode cX1_stores 11 = .ok (.iload_n 3, 1) := by decide +kernel
theorem dX1_stores_12 : decode cX1_stores 12 = .ok (.ishr, 1) := by decide +kernel
theorem dX1_stores_13 : decode cX1_stores 13 = .ok (.iconst 1, 1) := by decide +kernel
theorem dX1_stores_14 : decode cX1_stores 14 = .ok (.iand, 1) := by decide +kernel
theorem dX1_stores_15 : decode cX1_stores 15 = .ok (.iconst 1, 1) := by decide +kernel
theorem dX1_stores_16 : decode cX1_stores 16 = .ok (.if_icmp .ne 43, 3) := by decide +kernel
theorem dX1_stores_19 : decode cX1_stores 19 = .ok (.aload_n 0, 1) := by decide +kernel
theorem dX1_stores_20 : decode cX1_stores 20 = .ok (.bipush 34, 2) := by decide +kernel
theorem dX1_stores_22 : decode cX1_stores 22 = .ok (.iconst 2, 1) := by decide +kernel
theorem dX1_stores_23 : decode cX1_stores 23 = .ok (.iload_n 2, 1) := by decide +kernel
theorem dX1_stores_24 : decode cX1_stores 24 = .ok (.imul, 1) := by decide +kernel
theorem dX1_stores_25 : decode cX1_stores 25 = .ok (.iadd, 1) := by decide +kernel
theorem dX1_stores_26 : decode cX1_stores 26 = .ok (.iload_n 3, 1) := by decide +kernel
theorem dX1_stores_27 : decode cX1_stores 27 = .ok (.invokevirtual 64, 3) := by decide +kernel
theorem dX1_stores_30 : decode cX1_stores 30 = .ok (.ifCond .eq 24, 3) := by decide +kernel
theorem dX1_stores_33 : decode cX1_stores 33 = .ok (.aload_n 0, 1) := by decide +kernel
theorem dX1_stores_34 : decode cX1_stores 34 = .ok (.bipush 34, 2) := by decide +kernel
theorem dX1_stores_36 : decode cX1_stores 36 = .ok (.iconst 2, 1) := by decide +kernel
theorem dX1_stores_37 : decode cX1_stores 37 = .ok (.iload_n 2, 1) := by decide +kernel
theorem dX1_stores_38 : decode cX1_stores 38 = .ok (.imul, 1) := by decide +kernel
theorem dX1_stores_39 : decode cX1_stores 39 = .ok (.iadd, 1) := by decide +kernel
theorem dX1_stores_40 : decode cX1_stores 40 = .ok (.iconst 1, 1) := by decide +kernel
theorem dX1_stores_41 : decode cX1_stores 41 = .ok (.iadd, 1) := by decide +kernel
theorem dX1_stores_42 : decode cX1_stores 42 = .ok (.aload_n 0, 1) := by decide +kernel
theorem dX1_stores_43 : decode cX1_stores 43 = .ok (.getfield 7, 3) := by decide +kernel
theorem dX1_stores_46 : decode cX1_stores 46 = .ok (.iload_n 3, 1) := by decide +kernel
theorem dX1_stores_47 : decode cX1_stores 47 = .ok (.iaload, 1) := by decide +kernel
theorem dX1_stores_48 : decode cX1_stores 48 = .ok (.invokevirtual 64, 3) := by decide +kernel
theorem dX1_stores_51 : decode cX1_stores 51 = .ok (.ifCond .ne 5, 3) := by decide +kernel
theorem dX1_stores_54 : decode cX1_stores 54 = .ok (.iconst 0, 1) := by decide +kernel
theorem dX1_stores_55 : decode cX1_stores 55 = .ok (.ireturn, 1) := by decide +kernel
theorem dX1_stores_56 : decode cX1_stores 56 = .ok (.iinc 2 1, 3) := by decide +kernel
theorem dX1_stores_59 : decode cX1_stores 59 = .ok (.iinc 3 1, 3) := by decide +kernel
theorem dX1_stores_62 : decode cX1_stores 62 = .ok (.goto (-58), 3) := by decide +kernel
theorem dX1_stores_65 : decode cX1_stores 65 = .ok (.aload_n 0, 1) := by decide +kernel
theorem dX1_stores_66 : decode cX1_stores 66 = .ok (.bipush 33, 2) := by decide +kernel
theorem dX1_stores_68 : decode cX1_stores 68 = .ok (.aload_n 0, 1) := by decide +kernel
theorem dX1_stores_69 : decode cX1_stores 69 = .ok (.getfield 13, 3) := by decide +kernel
theorem dX1_stores_72 : decode cX1_stores 72 = .ok (.bipush 33, 2) := by decide +kernel
theorem dX1_stores_74 : decode cX1_stores 74 = .ok (.iaload, 1) := by decide +kernel
theorem dX1_stores_75 : decode cX1_stores 75 = .ok (.iconst 1, 1) := by decide +kernel
theorem dX1_stores_76 : decode cX1_stores 76 = .ok (.iadd, 1) := by decide +kernel
theorem dX1_stores_77 : decode cX1_stores 77 = .ok (.invokevirtual 64, 3) := by decide +kernel
theorem dX1_stores_80 : decode cX1_stores 80 = .ok (.ifCond .ne 5, 3) := by decide +kernel
theorem dX1_stores_83 : decode cX1_stores 83 = .ok (.iconst 0, 1) := by decide +kernel
theorem dX1_stores_84 : decode cX1_stores 84 = .ok (.ireturn, 1) := by decide +kernel
theorem dX1_stores_85 : decode cX1_stores 85 = .ok (.iload_n 2, 1) := by decide +kernel
theorem dX1_stores_86 : decode cX1_stores 86 = .ok (.ifCond .ne 5, 3) := by decide +kernel
theorem dX1_stores_89 : decode cX1_stores 89 = .ok (.iconst 1, 1) := by decide +kernel
theorem dX1_stores_90 : decode cX1_stores 90 = .ok (.ireturn, 1) := by decide +kernel
theorem dX1_stores_91 : decode cX1_stores 91 = .ok (.aload_n 0, 1) := by decide +kernel
theorem dX1_stores_92 : decode cX1_stores 92 = .ok (.bipush 32, 2) := by decide +kernel
theorem dX1_stores_94 : decode cX1_stores 94 = .ok (.iload_n 2, 1) := by decide +kernel
theorem dX1_stores_95 : decode cX1_stores 95 = .ok (.invokevirtual 64, 3) := by decide +kernel
theorem dX1_stores_98 : decode cX1_stores 98 = .ok (.ifCond .ne 5, 3) := by decide +kernel
theorem dX1_stores_101 : decode cX1_stores 101 = .ok (.iconst 0, 1) := by decide +kernel
theorem dX1_stores_102 : decode cX1_stores 102 = .ok (.ireturn, 1) := by decide +kernel
theorem dX1_stores_103 : decode cX1_stores 103 = .ok (.iconst 0, 1) := by decide +kernel
theorem dX1_stores_104 : decode cX1_stores 104 = .ok (.istore_n 3, 1) := by decide +kernel
theorem dX1_stores_105 : decode cX1_stores 105 = .ok (.iload_n 3, 1) := by decide +kernel
theorem dX1_stores_106 : decode cX1_stores 106 = .ok (.bipush 32, 2) := by decide +kernel
theorem dX1_stores_108 : decode cX1_stores 108 = .ok (.if_icmp .ge 34, 3) := by decide +kernel
theorem dX1_stores_111 : decode cX1_stores 111 = .ok (.iload_n 1, 1) := by decide +kernel
theorem dX1_stores_112 : decode cX1_stores 112 = .ok (.iload_n 3, 1) := by decide +kernel
theorem dX1_stores_113 : decode cX1_stores 113 = .ok (.ishr, 1) := by decide +kernel
theorem dX1_stores_114 : decode cX1_stores 114 = .ok (.iconst 1, 1) := by decide +kernel
theorem dX1_stores_115 : decode cX1_stores 115 = .ok (.iand, 1) := by decide +kernel
theorem dX1_stores_116 : decode cX1_stores 116 = .ok (.iconst 1, 1) := by decide +kernel
theorem dX1_stores_117 : decode cX1_stores 117 = .ok (.if_icmp .ne 19, 3) := by decide +kernel
theorem dX1_stores_120 : decode cX1_stores 120 = .ok (.aload_n 0, 1) := by decide +kernel
theorem dX1_stores_121 : decode cX1_stores 121 = .ok (.iload_n 3, 1) := by decide +kernel
theorem dX1_stores_122 : decode cX1_stores 122 = .ok (.aload_n 0, 1) := by decide +kernel
theorem dX1_stores_123 : decode cX1_stores 123 = .ok (.getfield 7, 3) := by decide +kernel
theorem dX1_stores_126 : decode cX1_stores 126 = .ok (.iload_n 3, 1) := by decide +kernel
theorem dX1_stores_127 : decode cX1_stores 127 = .ok (.iaload, 1) := by decide +kernel
theorem dX1_stores_128 : decode cX1_stores 128 = .ok (.invokevirtual 64, 3) := by decide +kernel
theorem dX1_stores_131 : decode cX1_stores 131 = .ok (.ifCond .ne 5, 3) := by decide +kernel
theorem dX1_stores_134 : decode cX1_stores 134 = .ok (.iconst 0, 1) := by decide +kernel
theorem dX1_stores_135 : decode cX1_stores 135 = .ok (.ireturn, 1) := by decide +kernel
theorem dX1_stores_136 : decode cX1_stores 136 = .ok (.iinc 3 1, 3) := by decide +kernel
theorem dX1_stores_139 : decode cX1_stores 139 = .ok (.goto (-34), 3) := by decide +kernel
theorem dX1_stores_142 : decode cX1_stores 142 = .ok (.aload_n 0, 1) := by decide +kernel
theorem dX1_stores_143 : decode cX1_stores 143 = .ok (.bipush 32, 2) := by decide +kernel
theorem dX1_stores_145 : decode cX1_stores 145 = .ok (.iconst 0, 1) := by decide +kernel
theorem dX1_stores_146 : decode cX1_stores 146 = .ok (.invokevirtual 64, 3) := by decide +kernel
theorem dX1_stores_149 : decode cX1_stores 149 = .ok (.ireturn, 1) := by decide +kernel
set_option maxRecDepth 20000 in
theorem ggX1_commit_X1_refuses : GoodIn wsX1_commit wsX1_refuses := goodIn_r _ [9, 10, 33, 34, 35, 36, 37, 38, 39, 40, 41, 42, 43] (by decide +kernel) (by decide +kernel)
set_option maxRecDepth 20000 in
theorem gX1_commit_X1_refuses : GoodIn wsX1_commit (wsV RX1 49 RX1 yX1_refuses wsX1_refuses) := goodIn_app (goodIn_of _ (by decide +kernel)) ggX1_commit_X1_refuses
set_option maxRecDepth 20000 in
theorem ggX1_commit_X1_first : GoodIn wsX1_commit wsX1_first := goodIn_r _ [14, 3, 15, 33, 34, 35, 36, 37, 38, 39, 40, 41, 42, 43] (by decide +kernel) (by decide +kernel)
set_option maxRecDepth 20000 in
theorem gX1_commit_X1_first : GoodIn wsX1_commit (wsV RX1 68 RX1 yX1_first wsX1_first) := goodIn_app (goodIn_of _ (by decide +kernel)) ggX1_commit_X1_first
set_option maxRecDepth 20000 in
theorem ggX1_commit_X1_melts : GoodIn wsX1_commit wsX1_melts := goodIn_r _ [19, 4, 3, 15, 20, 33, 34, 35, 36, 37, 38, 39, 40, 41, 42, 43] (by decide +kernel) (by decide +kernel)
set_option maxRecDepth 20000 in
theorem gX1_commit_X1_melts : GoodIn wsX1_commit (wsV RX1 71 RX1 yX1_melts wsX1_melts) := goodIn_app (goodIn_of _ (by decide +kernel)) ggX1_commit_X1_melts
set_option maxRecDepth 20000 in
theorem ggX1_commit_X1_stores : GoodIn wsX1_commit wsX1_stores := goodIn_r _ [24, 25, 26, 27, 28, 29, 8, 30, 31, 1, 3, 2, 32, 33, 34, 35, 36, 37, 38, 39, 40, 41, 42, 43] (by decide +kernel) (by decide +kernel)
set_option maxRecDepth 20000 in
theorem gX1_commit_X1_stores : GoodIn wsX1_commit (wsV RX1 74 RX1 yX1_stores wsX1_stores) := goodIn_app (goodIn_of _ (by decide +kernel)) ggX1_commit_X1_stores
theorem dX1_commit_0 : decode cX1_commit 0 = .ok (.aload_n 0, 1) := by decide +kernel
theorem dX1_commit_1 : decode cX1_commit 1 = .ok (.aload_n 0, 1) := by decide +kernel
theorem dX1_commit_2 : decode cX1_commit 2 = .ok (.getfield 39, 3) := by decide +kernel
theorem dX1_commit_5 : decode cX1_commit 5 = .ok (.ifCond .ne 10, 3) := by decide +kernel
theorem dX1_commit_8 : decode cX1_commit 8 = .ok (.aload_n 0, 1) := by decide +kernel
theorem dX1_commit_9 : decode cX1_commit 9 = .ok (.getfield 36, 3) := by decide +kernel
theorem dX1_commit_12 : decode cX1_commit 12 = .ok (.ifCond .ne 7, 3) := by decide +kernel
theorem dX1_commit_15 : decode cX1_commit 15 = .ok (.iconst 1, 1) := by decide +kernel
theorem dX1_commit_16 : decode cX1_commit 16 = .ok (.goto 4, 3) := by decide +kernel
theorem dX1_commit_19 : decode cX1_commit 19 = .ok (.iconst 0, 1) := by decide +kernel
theorem dX1_commit_20 : decode cX1_commit 20 = .ok (.invokevirtual 49, 3) := by decide +kernel
theorem dX1_commit_23 : decode cX1_commit 23 = .ok (.ifCond .eq 5, 3) := by decide +kernel
theorem dX1_commit_26 : decode cX1_commit 26 = .ok (.iconst 0, 1) := by decide +kernel
theorem dX1_commit_27 : decode cX1_commit 27 = .ok (.ireturn, 1) := by decide +kernel
theorem dX1_commit_28 : decode cX1_commit 28 = .ok (.aload_n 0, 1) := by decide +kernel
theorem dX1_commit_29 : decode cX1_commit 29 = .ok (.invokevirtual 68, 3) := by decide +kernel
theorem dX1_commit_32 : decode cX1_commit 32 = .ok (.istore_n 1, 1) := by decide +kernel
theorem dX1_commit_33 : decode cX1_commit 33 = .ok (.aload_n 0, 1) := by decide +kernel
theorem dX1_commit_34 : decode cX1_commit 34 = .ok (.getfield 29, 3) := by decide +kernel
theorem dX1_commit_37 : decode cX1_commit 37 = .ok (.iconst 1, 1) := by decide +kernel
theorem dX1_commit_38 : decode cX1_commit 38 = .ok (.isub, 1) := by decide +kernel
theorem dX1_commit_39 : decode cX1_commit 39 = .ok (.iload_n 1, 1) := by decide +kernel
theorem dX1_commit_40 : decode cX1_commit 40 = .ok (.if_icmp .le 16, 3) := by decide +kernel
theorem dX1_commit_43 : decode cX1_commit 43 = .ok (.aload_n 0, 1) := by decide +kernel
theorem dX1_commit_44 : decode cX1_commit 44 = .ok (.aload_n 0, 1) := by decide +kernel
theorem dX1_commit_45 : decode cX1_commit 45 = .ok (.getfield 29, 3) := by decide +kernel
theorem dX1_commit_48 : decode cX1_commit 48 = .ok (.iconst 1, 1) := by decide +kernel
theorem dX1_commit_49 : decode cX1_commit 49 = .ok (.isub, 1) := by decide +kernel
theorem dX1_commit_50 : decode cX1_commit 50 = .ok (.invokevirtual 71, 3) := by decide +kernel
theorem dX1_commit_53 : decode cX1_commit 53 = .ok (.goto (-20), 3) := by decide +kernel
theorem dX1_commit_56 : decode cX1_commit 56 = .ok (.aload_n 0, 1) := by decide +kernel
theorem dX1_commit_57 : decode cX1_commit 57 = .ok (.getfield 36, 3) := by decide +kernel
theorem dX1_commit_60 : decode cX1_commit 60 = .ok (.iconst 1, 1) := by decide +kernel
theorem dX1_commit_61 : decode cX1_commit 61 = .ok (.if_icmp .le 11, 3) := by decide +kernel
theorem dX1_commit_64 : decode cX1_commit 64 = .ok (.aload_n 0, 1) := by decide +kernel
theorem dX1_commit_65 : decode cX1_commit 65 = .ok (.iload_n 1, 1) := by decide +kernel
theorem dX1_commit_66 : decode cX1_commit 66 = .ok (.invokevirtual 71, 3) := by decide +kernel
theorem dX1_commit_69 : decode cX1_commit 69 = .ok (.goto 23, 3) := by decide +kernel
theorem dX1_commit_72 : decode cX1_commit 72 = .ok (.aload_n 0, 1) := by decide +kernel
theorem dX1_commit_73 : decode cX1_commit 73 = .ok (.aload_n 0, 1) := by decide +kernel
theorem dX1_commit_74 : decode cX1_commit 74 = .ok (.getfield 19, 3) := by decide +kernel
theorem dX1_commit_77 : decode cX1_commit 77 = .ok (.iconst 0, 1) := by decide +kernel
theorem dX1_commit_78 : decode cX1_commit 78 = .ok (.iaload, 1) := by decide +kernel
theorem dX1_commit_79 : decode cX1_commit 79 = .ok (.invokevirtual 74, 3) := by decide +kernel
theorem dX1_commit_82 : decode cX1_commit 82 = .ok (.ifCond .ne 5, 3) := by decide +kernel
theorem dX1_commit_85 : decode cX1_commit 85 = .ok (.iconst (-1), 1) := by decide +kernel
theorem dX1_commit_86 : decode cX1_commit 86 = .ok (.ireturn, 1) := by decide +kernel
theorem dX1_commit_87 : decode cX1_commit 87 = .ok (.aload_n 0, 1) := by decide +kernel
theorem dX1_commit_88 : decode cX1_commit 88 = .ok (.iconst 0, 1) := by decide +kernel
theorem dX1_commit_89 : decode cX1_commit 89 = .ok (.putfield 29, 3) := by decide +kernel
theorem dX1_commit_92 : decode cX1_commit 92 = .ok (.aload_n 0, 1) := by decide +kernel
theorem dX1_commit_93 : decode cX1_commit 93 = .ok (.dup, 1) := by decide +kernel
theorem dX1_commit_94 : decode cX1_commit 94 = .ok (.getfield 36, 3) := by decide +kernel
theorem dX1_commit_97 : decode cX1_commit 97 = .ok (.iconst 1, 1) := by decide +kernel
theorem dX1_commit_98 : decode cX1_commit 98 = .ok (.isub, 1) := by decide +kernel
theorem dX1_commit_99 : decode cX1_commit 99 = .ok (.putfield 36, 3) := by decide +kernel
theorem dX1_commit_102 : decode cX1_commit 102 = .ok (.aload_n 0, 1) := by decide +kernel
theorem dX1_commit_103 : decode cX1_commit 103 = .ok (.getfield 36, 3) := by decide +kernel
theorem dX1_commit_106 : decode cX1_commit 106 = .ok (.ireturn, 1) := by decide +kernel
set_option maxRecDepth 20000 in
theorem ggX1_abort_X1_refuses : GoodIn wsX1_abort wsX1_refuses := goodIn_r _ [8, 9, 25, 26, 27, 28, 29, 30, 31, 32, 33, 34, 35] (by decide +kernel) (by decide +kernel)
set_option maxRecDepth 20000 in
theorem gX1_abort_X1_refuses : GoodIn wsX1_abort (wsV RX1 49 RX1 yX1_refuses wsX1_refuses) := goodIn_app (goodIn_of _ (by decide +kernel)) ggX1_abort_X1_refuses
set_option maxRecDepth 20000 in
theorem ggX1_abort_X1_first : GoodIn wsX1_abort wsX1_first := goodIn_r _ [13, 3, 14, 25, 26, 27, 28, 29, 30, 31, 32, 33, 34, 35] (by decide +kernel) (by decide +kernel)
set_option maxRecDepth 20000 in
theorem gX1_abort_X1_first : GoodIn wsX1_abort (wsV RX1 68 RX1 yX1_first wsX1_first) := goodIn_app (goodIn_of _ (by decide +kernel)) ggX1_abort_X1_first
set_option maxRecDepth 20000 in
theorem ggX1_abort_X1_returns : GoodIn wsX1_abort wsX1_returns := goodIn_r _ [18, 3, 19, 20, 21, 22, 23, 7, 24, 25, 26, 27, 28, 29, 30, 31, 32, 33, 34, 35] (by decide +kernel) (by decide +kernel)
set_option maxRecDepth 20000 in
theorem gX1_abort_X1_returns : GoodIn wsX1_abort (wsV RX1 77 RX1 yX1_returns wsX1_returns) := goodIn_app (goodIn_of _ (by decide +kernel)) ggX1_abort_X1_returns
theorem dX1_abort_0 : decode cX1_abort 0 = .ok (.aload_n 0, 1) := by decide +kernel
theorem dX1_abort_1 : decode cX1_abort 1 = .ok (.aload_n 0, 1) := by decide +kernel
theorem dX1_abort_2 : decode cX1_abort 2 = .ok (.getfield 39, 3) := by decide +kernel
theorem dX1_abort_5 : decode cX1_abort 5 = .ok (.ifCond .ne 10, 3) := by decide +kernel
theorem dX1_abort_8 : decode cX1_abort 8 = .ok (.aload_n 0, 1) := by decide +kernel
theorem dX1_abort_9 : decode cX1_abort 9 = .ok (.getfield 36, 3) := by decide +kernel
theorem dX1_abort_12 : decode cX1_abort 12 = .ok (.ifCond .ne 7, 3) := by decide +kernel
theorem dX1_abort_15 : decode cX1_abort 15 = .ok (.iconst 1, 1) := by decide +kernel
theorem dX1_abort_16 : decode cX1_abort 16 = .ok (.goto 4, 3) := by decide +kernel
theorem dX1_abort_19 : decode cX1_abort 19 = .ok (.iconst 0, 1) := by decide +kernel
theorem dX1_abort_20 : decode cX1_abort 20 = .ok (.invokevirtual 49, 3) := by decide +kernel
theorem dX1_abort_23 : decode cX1_abort 23 = .ok (.ifCond .eq 5, 3) := by decide +kernel
theorem dX1_abort_26 : decode cX1_abort 26 = .ok (.iconst 0, 1) := by decide +kernel
theorem dX1_abort_27 : decode cX1_abort 27 = .ok (.ireturn, 1) := by decide +kernel
theorem dX1_abort_28 : decode cX1_abort 28 = .ok (.aload_n 0, 1) := by decide +kernel
theorem dX1_abort_29 : decode cX1_abort 29 = .ok (.invokevirtual 68, 3) := by decide +kernel
theorem dX1_abort_32 : decode cX1_abort 32 = .ok (.istore_n 1, 1) := by decide +kernel
theorem dX1_abort_33 : decode cX1_abort 33 = .ok (.aload_n 0, 1) := by decide +kernel
theorem dX1_abort_34 : decode cX1_abort 34 = .ok (.iload_n 1, 1) := by decide +kernel
theorem dX1_abort_35 : decode cX1_abort 35 = .ok (.invokevirtual 77, 3) := by decide +kernel
theorem dX1_abort_38 : decode cX1_abort 38 = .ok (.istore_n 2, 1) := by decide +kernel
theorem dX1_abort_39 : decode cX1_abort 39 = .ok (.aload_n 0, 1) := by decide +kernel
theorem dX1_abort_40 : decode cX1_abort 40 = .ok (.iload_n 1, 1) := by decide +kernel
theorem dX1_abort_41 : decode cX1_abort 41 = .ok (.putfield 29, 3) := by decide +kernel
theorem dX1_abort_44 : decode cX1_abort 44 = .ok (.aload_n 0, 1) := by decide +kernel
theorem dX1_abort_45 : decode cX1_abort 45 = .ok (.dup, 1) := by decide +kernel
theorem dX1_abort_46 : decode cX1_abort 46 = .ok (.getfield 36, 3) := by decide +kernel
theorem dX1_abort_49 : decode cX1_abort 49 = .ok (.iconst 1, 1) := by decide +kernel
theorem dX1_abort_50 : decode cX1_abort 50 = .ok (.isub, 1) := by decide +kernel
theorem dX1_abort_51 : decode cX1_abort 51 = .ok (.putfield 36, 3) := by decide +kernel
theorem dX1_abort_54 : decode cX1_abort 54 = .ok (.iload_n 2, 1) := by decide +kernel
theorem dX1_abort_55 : decode cX1_abort 55 = .ok (.ireturn, 1) := by decide +kernel
set_option maxRecDepth 20000 in
theorem ggX1_points_X1_first : GoodIn wsX1_points wsX1_first := goodIn_r _ [7, 2, 8, 9, 10, 11, 12, 13, 14, 15, 16, 17, 18, 19] (by decide +kernel) (by decide +kernel)
set_option maxRecDepth 20000 in
theorem gX1_points_X1_first : GoodIn wsX1_points (wsV RX1 68 RX1 yX1_first wsX1_first) := goodIn_app (goodIn_of _ (by decide +kernel)) ggX1_points_X1_first
theorem dX1_points_0 : decode cX1_points 0 = .ok (.aload_n 0, 1) := by decide +kernel
theorem dX1_points_1 : decode cX1_points 1 = .ok (.getfield 36, 3) := by decide +kernel
theorem dX1_points_4 : decode cX1_points 4 = .ok (.ifCond .ne 7, 3) := by decide +kernel
theorem dX1_points_7 : decode cX1_points 7 = .ok (.iconst 0, 1) := by decide +kernel
theorem dX1_points_8 : decode cX1_points 8 = .ok (.goto 14, 3) := by decide +kernel
theorem dX1_points_11 : decode cX1_points 11 = .ok (.aload_n 0, 1) := by decide +kernel
theorem dX1_points_12 : decode cX1_points 12 = .ok (.getfield 29, 3) := by decide +kernel
theorem dX1_points_15 : decode cX1_points 15 = .ok (.iconst 1, 1) := by decide +kernel
theorem dX1_points_16 : decode cX1_points 16 = .ok (.isub, 1) := by decide +kernel
theorem dX1_points_17 : decode cX1_points 17 = .ok (.aload_n 0, 1) := by decide +kernel
theorem dX1_points_18 : decode cX1_points 18 = .ok (.invokevirtual 68, 3) := by decide +kernel
theorem dX1_points_21 : decode cX1_points 21 = .ok (.isub, 1) := by decide +kernel
theorem dX1_points_22 : decode cX1_points 22 = .ok (.ireturn, 1) := by decide +kernel
set_option maxRecDepth 20000 in
theorem ggX1_point_X1_refuses : GoodIn wsX1_point wsX1_refuses := goodIn_r _ [7, 8, 34, 35, 36, 37, 38, 39, 40, 41, 42, 43, 44] (by decide +kernel) (by decide +kernel)
set_option maxRecDepth 20000 in
theorem gX1_point_X1_refuses : GoodIn wsX1_point (wsV RX1 49 RX1 yX1_refuses wsX1_refuses) := goodIn_app (goodIn_of _ (by decide +kernel)) ggX1_point_X1_refuses
set_option maxRecDepth 20000 in
theorem ggX1_point_X1_find : GoodIn wsX1_point wsX1_find := goodIn_r _ [12, 13, 14, 34, 35, 36, 37, 38, 39, 40, 41, 42, 43, 44] (by decide +kernel) (by decide +kernel)
set_option maxRecDepth 20000 in
theorem gX1_point_X1_find : GoodIn wsX1_point (wsV RX1 80 RX1 yX1_find wsX1_find) := goodIn_app (goodIn_of _ (by decide +kernel)) ggX1_point_X1_find
set_option maxRecDepth 20000 in
theorem ggX1_point_X1_melts : GoodIn wsX1_point wsX1_melts := goodIn_r _ [18, 19, 13, 14, 20, 34, 35, 36, 37, 38, 39, 40, 41, 42, 43, 44] (by decide +kernel) (by decide +kernel)
set_option maxRecDepth 20000 in
theorem gX1_point_X1_melts : GoodIn wsX1_point (wsV RX1 71 RX1 yX1_melts wsX1_melts) := goodIn_app (goodIn_of _ (by decide +kernel)) ggX1_point_X1_melts
set_option maxRecDepth 20000 in
theorem ggX1_point_X1_opens : GoodIn wsX1_point wsX1_opens := goodIn_r _ [24, 20, 13, 25, 19, 14, 34, 35, 36, 37, 38, 39, 40, 41, 42, 43, 44] (by decide +kernel) (by decide +kernel)
set_option maxRecDepth 20000 in
theorem gX1_point_X1_opens : GoodIn wsX1_point (wsV RX1 53 RX1 yX1_opens wsX1_opens) := goodIn_app (goodIn_of _ (by decide +kernel)) ggX1_point_X1_opens
set_option maxRecDepth 20000 in
theorem ggX1_point_X1_points : GoodIn wsX1_point wsX1_points := goodIn_r _ [29, 2, 13, 30, 31, 32, 6, 33, 14, 34, 35, 36, 37, 38, 39, 40, 41, 42, 43, 44] (by decide +kernel) (by decide +kernel)
set_option maxRecDepth 20000 in
theorem gX1_point_X1_points : GoodIn wsX1_point (wsV RX1 83 RX1 yX1_points wsX1_points) := goodIn_app (goodIn_of _ (by decide +kernel)) ggX1_point_X1_points
theorem dX1_point_0 : decode cX1_point 0 = .ok (.aload_n 0, 1) := by decide +kernel
theorem dX1_point_1 : decode cX1_point 1 = .ok (.iload_n 1, 1) := by decide +kernel
theorem dX1_point_2 : decode cX1_point 2 = .ok (.ifCond .lt 9, 3) := by decide +kernel
theorem dX1_point_5 : decode cX1_point 5 = .ok (.iload_n 1, 1) := by decide +kernel
theorem dX1_point_6 : decode cX1_point 6 = .ok (.bipush 9, 2) := by decide +kernel
theorem dX1_point_8 : decode cX1_point 8 = .ok (.if_icmp .le 7, 3) := by decide +kernel
theorem dX1_point_11 : decode cX1_point 11 = .ok (.iconst 1, 1) := by decide +kernel
theorem dX1_point_12 : decode cX1_point 12 = .ok (.goto 22, 3) := by decide +kernel
theorem dX1_point_15 : decode cX1_point 15 = .ok (.aload_n 0, 1) := by decide +kernel
theorem dX1_point_16 : decode cX1_point 16 = .ok (.getfield 39, 3) := by decide +kernel
theorem dX1_point_19 : decode cX1_point 19 = .ok (.ifCond .ne 10, 3) := by decide +kernel
theorem dX1_point_22 : decode cX1_point 22 = .ok (.aload_n 0, 1) := by decide +kernel
theorem dX1_point_23 : decode cX1_point 23 = .ok (.getfield 36, 3) := by decide +kernel
theorem dX1_point_26 : decode cX1_point 26 = .ok (.ifCond .ne 7, 3) := by decide +kernel
theorem dX1_point_29 : decode cX1_point 29 = .ok (.iconst 2, 1) := by decide +kernel
theorem dX1_point_30 : decode cX1_point 30 = .ok (.goto 4, 3) := by decide +kernel
theorem dX1_point_33 : decode cX1_point 33 = .ok (.iconst 0, 1) := by decide +kernel
theorem dX1_point_34 : decode cX1_point 34 = .ok (.invokevirtual 49, 3) := by decide +kernel
theorem dX1_point_37 : decode cX1_point 37 = .ok (.ifCond .eq 5, 3) := by decide +kernel
theorem dX1_point_40 : decode cX1_point 40 = .ok (.iconst 0, 1) := by decide +kernel
theorem dX1_point_41 : decode cX1_point 41 = .ok (.ireturn, 1) := by decide +kernel
theorem dX1_point_42 : decode cX1_point 42 = .ok (.aload_n 0, 1) := by decide +kernel
theorem dX1_point_43 : decode cX1_point 43 = .ok (.iload_n 1, 1) := by decide +kernel
theorem dX1_point_44 : decode cX1_point 44 = .ok (.invokevirtual 80, 3) := by decide +kernel
theorem dX1_point_47 : decode cX1_point 47 = .ok (.istore_n 2, 1) := by decide +kernel
theorem dX1_point_48 : decode cX1_point 48 = .ok (.iload_n 2, 1) := by decide +kernel
theorem dX1_point_49 : decode cX1_point 49 = .ok (.ifCond .lt 8, 3) := by decide +kernel
theorem dX1_point_52 : decode cX1_point 52 = .ok (.aload_n 0, 1) := by decide +kernel
theorem dX1_point_53 : decode cX1_point 53 = .ok (.iload_n 2, 1) := by decide +kernel
theorem dX1_point_54 : decode cX1_point 54 = .ok (.invokevirtual 71, 3) := by decide +kernel
theorem dX1_point_57 : decode cX1_point 57 = .ok (.aload_n 0, 1) := by decide +kernel
theorem dX1_point_58 : decode cX1_point 58 = .ok (.iload_n 1, 1) := by decide +kernel
theorem dX1_point_59 : decode cX1_point 59 = .ok (.invokevirtual 53, 3) := by decide +kernel
theorem dX1_point_62 : decode cX1_point 62 = .ok (.aload_n 0, 1) := by decide +kernel
theorem dX1_point_63 : decode cX1_point 63 = .ok (.invokevirtual 83, 3) := by decide +kernel
theorem dX1_point_66 : decode cX1_point 66 = .ok (.ireturn, 1) := by decide +kernel
set_option maxRecDepth 20000 in
theorem ggX1_wrong_X1_find : GoodIn wsX1_wrong wsX1_find := goodIn_r _ [7, 8, 9, 10, 11, 12, 13, 14, 15, 16, 17, 18, 19, 20] (by decide +kernel) (by decide +kernel)
set_option maxRecDepth 20000 in
theorem gX1_wrong_X1_find : GoodIn wsX1_wrong (wsV RX1 80 RX1 yX1_find wsX1_find) := goodIn_app (goodIn_of _ (by decide +kernel)) ggX1_wrong_X1_find
theorem dX1_wrong_0 : decode cX1_wrong 0 = .ok (.iload_n 1, 1) := by decide +kernel
theorem dX1_wrong_1 : decode cX1_wrong 1 = .ok (.ifCond .lt 9, 3) := by decide +kernel
theorem dX1_wrong_4 : decode cX1_wrong 4 = .ok (.iload_n 1, 1) := by decide +kernel
theorem dX1_wrong_5 : decode cX1_wrong 5 = .ok (.bipush 9, 2) := by decide +kernel
theorem dX1_wrong_7 : decode cX1_wrong 7 = .ok (.if_icmp .le 7, 3) := by decide +kernel
theorem dX1_wrong_10 : decode cX1_wrong 10 = .ok (.iconst 1, 1) := by decide +kernel
theorem dX1_wrong_11 : decode cX1_wrong 11 = .ok (.goto 34, 3) := by decide +kernel
theorem dX1_wrong_14 : decode cX1_wrong 14 = .ok (.aload_n 0, 1) := by decide +kernel
theorem dX1_wrong_15 : decode cX1_wrong 15 = .ok (.getfield 39, 3) := by decide +kernel
theorem dX1_wrong_18 : decode cX1_wrong 18 = .ok (.ifCond .ne 10, 3) := by decide +kernel
theorem dX1_wrong_21 : decode cX1_wrong 21 = .ok (.aload_n 0, 1) := by decide +kernel
theorem dX1_wrong_22 : decode cX1_wrong 22 = .ok (.getfield 36, 3) := by decide +kernel
theorem dX1_wrong_25 : decode cX1_wrong 25 = .ok (.ifCond .ne 7, 3) := by decide +kernel
theorem dX1_wrong_28 : decode cX1_wrong 28 = .ok (.iconst 2, 1) := by decide +kernel
theorem dX1_wrong_29 : decode cX1_wrong 29 = .ok (.goto 16, 3) := by decide +kernel
theorem dX1_wrong_32 : decode cX1_wrong 32 = .ok (.aload_n 0, 1) := by decide +kernel
theorem dX1_wrong_33 : decode cX1_wrong 33 = .ok (.iload_n 1, 1) := by decide +kernel
theorem dX1_wrong_34 : decode cX1_wrong 34 = .ok (.invokevirtual 80, 3) := by decide +kernel
theorem dX1_wrong_37 : decode cX1_wrong 37 = .ok (.ifCond .ge 7, 3) := by decide +kernel
theorem dX1_wrong_40 : decode cX1_wrong 40 = .ok (.iconst 1, 1) := by decide +kernel
theorem dX1_wrong_41 : decode cX1_wrong 41 = .ok (.goto 4, 3) := by decide +kernel
theorem dX1_wrong_44 : decode cX1_wrong 44 = .ok (.iconst 0, 1) := by decide +kernel
theorem dX1_wrong_45 : decode cX1_wrong 45 = .ok (.ireturn, 1) := by decide +kernel
set_option maxRecDepth 20000 in
theorem ggX1_back_X1_wrong : GoodIn wsX1_back wsX1_wrong := goodIn_r _ [7, 8, 9, 10, 11, 12, 6, 13, 1, 14, 29, 30, 31, 32, 33, 34, 35, 36, 37, 38, 39] (by decide +kernel) (by decide +kernel)
set_option maxRecDepth 20000 in
theorem gX1_back_X1_wrong : GoodIn wsX1_back (wsV RX1 86 RX1 yX1_wrong wsX1_wrong) := goodIn_app (goodIn_of _ (by decide +kernel)) ggX1_back_X1_wrong
set_option maxRecDepth 20000 in
theorem ggX1_back_X1_refuses : GoodIn wsX1_back wsX1_refuses := goodIn_r _ [18, 19, 29, 30, 31, 32, 33, 34, 35, 36, 37, 38, 39] (by decide +kernel) (by decide +kernel)
set_option maxRecDepth 20000 in
theorem gX1_back_X1_refuses : GoodIn wsX1_back (wsV RX1 49 RX1 yX1_refuses wsX1_refuses) := goodIn_app (goodIn_of _ (by decide +kernel)) ggX1_back_X1_refuses
set_option maxRecDepth 20000 in
theorem ggX1_back_X1_find : GoodIn wsX1_back wsX1_find := goodIn_r _ [13, 1, 14, 29, 30, 31, 32, 33, 34, 35, 36, 37, 38, 39] (by decide +kernel) (by decide +kernel)
set_option maxRecDepth 20000 in
theorem gX1_back_X1_find : GoodIn wsX1_back (wsV RX1 80 RX1 yX1_find wsX1_find) := goodIn_app (goodIn_of _ (by decide +kernel)) ggX1_back_X1_find
set_option maxRecDepth 20000 in
theorem ggX1_back_X1_returns : GoodIn wsX1_back wsX1_returns := goodIn_r _ [23, 1, 2, 24, 25, 26, 27, 6, 28, 29, 30, 31, 32, 33, 34, 35, 36, 37, 38, 39] (by decide +kernel) (by decide +kernel)
set_option maxRecDepth 20000 in
theorem gX1_back_X1_returns : GoodIn wsX1_back (wsV RX1 77 RX1 yX1_returns wsX1_returns) := goodIn_app (goodIn_of _ (by decide +kernel)) ggX1_back_X1_returns
theorem dX1_back_0 : decode cX1_back 0 = .ok (.aload_n 0, 1) := by decide +kernel
theorem dX1_back_1 : decode cX1_back 1 = .ok (.aload_n 0, 1) := by decide +kernel
theorem dX1_back_2 : decode cX1_back 2 = .ok (.iload_n 1, 1) := by decide +kernel
theorem dX1_back_3 : decode cX1_back 3 = .ok (.invokevirtual 86, 3) := by decide +kernel
theorem dX1_back_6 : decode cX1_back 6 = .ok (.invokevirtual 49, 3) := by decide +kernel
theorem dX1_back_9 : decode cX1_back 9 = .ok (.ifCond .eq 5, 3) := by decide +kernel
theorem dX1_back_12 : decode cX1_back 12 = .ok (.iconst 0, 1) := by decide +kernel
theorem dX1_back_13 : decode cX1_back 13 = .ok (.ireturn, 1) := by decide +kernel
theorem dX1_back_14 : decode cX1_back 14 = .ok (.aload_n 0, 1) := by decide +kernel
theorem dX1_back_15 : decode cX1_back 15 = .ok (.iload_n 1, 1) := by decide +kernel
theorem dX1_back_16 : decode cX1_back 16 = .ok (.invokevirtual 80, 3) := by decide +kernel
theorem dX1_back_19 : decode cX1_back 19 = .ok (.istore_n 2, 1) := by decide +kernel
theorem dX1_back_20 : decode cX1_back 20 = .ok (.aload_n 0, 1) := by decide +kernel
theorem dX1_back_21 : decode cX1_back 21 = .ok (.iload_n 2, 1) := by decide +kernel
theorem dX1_back_22 : decode cX1_back 22 = .ok (.invokevirtual 77, 3) := by decide +kernel
theorem dX1_back_25 : decode cX1_back 25 = .ok (.istore_n 3, 1) := by decide +kernel
theorem dX1_back_26 : decode cX1_back 26 = .ok (.aload_n 0, 1) := by decide +kernel
theorem dX1_back_27 : decode cX1_back 27 = .ok (.iload_n 2, 1) := by decide +kernel
theorem dX1_back_28 : decode cX1_back 28 = .ok (.iconst 1, 1) := by decide +kernel
theorem dX1_back_29 : decode cX1_back 29 = .ok (.iadd, 1) := by decide +kernel
theorem dX1_back_30 : decode cX1_back 30 = .ok (.putfield 29, 3) := by decide +kernel
theorem dX1_back_33 : decode cX1_back 33 = .ok (.aload_n 0, 1) := by decide +kernel
theorem dX1_back_34 : decode cX1_back 34 = .ok (.getfield 19, 3) := by decide +kernel
theorem dX1_back_37 : decode cX1_back 37 = .ok (.iload_n 2, 1) := by decide +kernel
theorem dX1_back_38 : decode cX1_back 38 = .ok (.iconst 0, 1) := by decide +kernel
theorem dX1_back_39 : decode cX1_back 39 = .ok (.iastore, 1) := by decide +kernel
theorem dX1_back_40 : decode cX1_back 40 = .ok (.iload_n 3, 1) := by decide +kernel
theorem dX1_back_41 : decode cX1_back 41 = .ok (.ireturn, 1) := by decide +kernel
set_option maxRecDepth 20000 in
theorem ggX1_release_X1_wrong : GoodIn wsX1_release wsX1_wrong := goodIn_r _ [5, 6, 7, 8, 9, 10, 4, 11, 12, 13, 33, 34, 35, 36, 37, 38, 39, 40, 41, 42, 43] (by decide +kernel) (by decide +kernel)
set_option maxRecDepth 20000 in
theorem gX1_release_X1_wrong : GoodIn wsX1_release (wsV RX1 86 RX1 yX1_wrong wsX1_wrong) := goodIn_app (goodIn_of _ (by decide +kernel)) ggX1_release_X1_wrong
set_option maxRecDepth 20000 in
theorem ggX1_release_X1_refuses : GoodIn wsX1_release wsX1_refuses := goodIn_r _ [17, 18, 33, 34, 35, 36, 37, 38, 39, 40, 41, 42, 43] (by decide +kernel) (by decide +kernel)
set_option maxRecDepth 20000 in
theorem gX1_release_X1_refuses : GoodIn wsX1_release (wsV RX1 49 RX1 yX1_refuses wsX1_refuses) := goodIn_app (goodIn_of _ (by decide +kernel)) ggX1_release_X1_refuses
set_option maxRecDepth 20000 in
theorem ggX1_release_X1_find : GoodIn wsX1_release wsX1_find := goodIn_r _ [11, 12, 13, 33, 34, 35, 36, 37, 38, 39, 40, 41, 42, 43] (by decide +kernel) (by decide +kernel)
set_option maxRecDepth 20000 in
theorem gX1_release_X1_find : GoodIn wsX1_release (wsV RX1 80 RX1 yX1_find wsX1_find) := goodIn_app (goodIn_of _ (by decide +kernel)) ggX1_release_X1_find
set_option maxRecDepth 20000 in
theorem ggX1_release_X1_melts : GoodIn wsX1_release wsX1_melts := goodIn_r _ [22, 23, 12, 13, 24, 33, 34, 35, 36, 37, 38, 39, 40, 41, 42, 43] (by decide +kernel) (by decide +kernel)
set_option maxRecDepth 20000 in
theorem gX1_release_X1_melts : GoodIn wsX1_release (wsV RX1 71 RX1 yX1_melts wsX1_melts) := goodIn_app (goodIn_of _ (by decide +kernel)) ggX1_release_X1_melts
set_option maxRecDepth 20000 in
theorem ggX1_release_X1_points : GoodIn wsX1_release wsX1_points := goodIn_r _ [28, 7, 12, 29, 30, 31, 4, 32, 13, 33, 34, 35, 36, 37, 38, 39, 40, 41, 42, 43] (by decide +kernel) (by decide +kernel)
set_option maxRecDepth 20000 in
theorem gX1_release_X1_points : GoodIn wsX1_release (wsV RX1 83 RX1 yX1_points wsX1_points) := goodIn_app (goodIn_of _ (by decide +kernel)) ggX1_release_X1_points
theorem dX1_release_0 : decode cX1_release 0 = .ok (.aload_n 0, 1) := by decide +kernel
theorem dX1_release_1 : decode cX1_release 1 = .ok (.aload_n 0, 1) := by decide +kernel
theorem dX1_release_2 : decode cX1_release 2 = .ok (.iload_n 1, 1) := by decide +kernel
theorem dX1_release_3 : decode cX1_release 3 = .ok (.invokevirtual 86, 3) := by decide +kernel
theorem dX1_release_6 : decode cX1_release 6 = .ok (.invokevirtual 49, 3) := by decide +kernel
theorem dX1_release_9 : decode cX1_release 9 = .ok (.ifCond .eq 5, 3) := by decide +kernel
theorem dX1_release_12 : decode cX1_release 12 = .ok (.iconst 0, 1) := by decide +kernel
theorem dX1_release_13 : decode cX1_release 13 = .ok (.ireturn, 1) := by decide +kernel
theorem dX1_release_14 : decode cX1_release 14 = .ok (.aload_n 0, 1) := by decide +kernel
theorem dX1_release_15 : decode cX1_release 15 = .ok (.aload_n 0, 1) := by decide +kernel
theorem dX1_release_16 : decode cX1_release 16 = .ok (.iload_n 1, 1) := by decide +kernel
theorem dX1_release_17 : decode cX1_release 17 = .ok (.invokevirtual 80, 3) := by decide +kernel
theorem dX1_release_20 : decode cX1_release 20 = .ok (.invokevirtual 71, 3) := by decide +kernel
theorem dX1_release_23 : decode cX1_release 23 = .ok (.aload_n 0, 1) := by decide +kernel
theorem dX1_release_24 : decode cX1_release 24 = .ok (.invokevirtual 83, 3) := by decide +kernel
theorem dX1_release_27 : decode cX1_release 27 = .ok (.ireturn, 1) := by decide +kernel
theorem dX1_crash_0 : decode cX1_crash 0 = .ok (.aload_n 0, 1) := by decide +kernel
theorem dX1_crash_1 : decode cX1_crash 1 = .ok (.iconst 0, 1) := by decide +kernel
theorem dX1_crash_2 : decode cX1_crash 2 = .ok (.putfield 25, 3) := by decide +kernel
theorem dX1_crash_5 : decode cX1_crash 5 = .ok (.aload_n 0, 1) := by decide +kernel
theorem dX1_crash_6 : decode cX1_crash 6 = .ok (.iload_n 1, 1) := by decide +kernel
theorem dX1_crash_7 : decode cX1_crash 7 = .ok (.iconst 1, 1) := by decide +kernel
theorem dX1_crash_8 : decode cX1_crash 8 = .ok (.if_icmp .ge 7, 3) := by decide +kernel
theorem dX1_crash_11 : decode cX1_crash 11 = .ok (.iconst 0, 1) := by decide +kernel
theorem dX1_crash_12 : decode cX1_crash 12 = .ok (.goto 4, 3) := by decide +kernel
theorem dX1_crash_15 : decode cX1_crash 15 = .ok (.iload_n 1, 1) := by decide +kernel
theorem dX1_crash_16 : decode cX1_crash 16 = .ok (.putfield 43, 3) := by decide +kernel
theorem dX1_crash_19 : decode cX1_crash 19 = .ok (.return_, 1) := by decide +kernel
set_option maxRecDepth 20000 in
theorem ggX1_recover_X1_isCell : GoodIn wsX1_recover wsX1_isCell := goodIn_r _ [12] (by decide +kernel) (by decide +kernel)
set_option maxRecDepth 20000 in
theorem gX1_recover_X1_isCell : GoodIn wsX1_recover (va_wsS RX1 57 yX1_isCell wsX1_isCell) := goodIn_app (goodIn_of _ (by decide +kernel)) ggX1_recover_X1_isCell
theorem dX1_recover_0 : decode cX1_recover 0 = .ok (.aload_n 0, 1) := by decide +kernel
theorem dX1_recover_1 : decode cX1_recover 1 = .ok (.iconst 0, 1) := by decide +kernel
theorem dX1_recover_2 : decode cX1_recover 2 = .ok (.putfield 25, 3) := by decide +kernel
theorem dX1_recover_5 : decode cX1_recover 5 = .ok (.aload_n 0, 1) := by decide +kernel
theorem dX1_recover_6 : decode cX1_recover 6 = .ok (.iconst 0, 1) := by decide +kernel
theorem dX1_recover_7 : decode cX1_recover 7 = .ok (.putfield 43, 3) := by decide +kernel
theorem dX1_recover_10 : decode cX1_recover 10 = .ok (.aload_n 0, 1) := by decide +kernel
theorem dX1_recover_11 : decode cX1_recover 11 = .ok (.iconst 0, 1) := by decide +kernel
theorem dX1_recover_12 : decode cX1_recover 12 = .ok (.putfield 39, 3) := by decide +kernel
theorem dX1_recover_15 : decode cX1_recover 15 = .ok (.aload_n 0, 1) := by decide +kernel
theorem dX1_recover_16 : decode cX1_recover 16 = .ok (.iconst 0, 1) := by decide +kernel
theorem dX1_recover_17 : decode cX1_recover 17 = .ok (.putfield 29, 3) := by decide +kernel
theorem dX1_recover_20 : decode cX1_recover 20 = .ok (.aload_n 0, 1) := by decide +kernel
theorem dX1_recover_21 : decode cX1_recover 21 = .ok (.iconst 0, 1) := by decide +kernel
theorem dX1_recover_22 : decode cX1_recover 22 = .ok (.putfield 36, 3) := by decide +kernel
theorem dX1_recover_25 : decode cX1_recover 25 = .ok (.iconst 0, 1) := by decide +kernel
theorem dX1_recover_26 : decode cX1_recover 26 = .ok (.istore_n 1, 1) := by decide +kernel
theorem dX1_recover_27 : decode cX1_recover 27 = .ok (.iconst 0, 1) := by decide +kernel
theorem dX1_recover_28 : decode cX1_recover 28 = .ok (.istore_n 2, 1) := by decide +kernel
theorem dX1_recover_29 : decode cX1_recover 29 = .ok (.iload_n 2, 1) := by decide +kernel
theorem dX1_recover_30 : decode cX1_recover 30 = .ok (.aload_n 0, 1) := by decide +kernel
theorem dX1_recover_31 : decode cX1_recover 31 = .ok (.getfield 13, 3) := by decide +kernel
theorem dX1_recover_34 : decode cX1_recover 34 = .ok (.bipush 32, 2) := by decide +kernel
theorem dX1_recover_36 : decode cX1_recover 36 = .ok (.iaload, 1) := by decide +kernel
theorem dX1_recover_37 : decode cX1_recover 37 = .ok (.if_icmp .ge 62, 3) := by decide +kernel
theorem dX1_recover_40 : decode cX1_recover 40 = .ok (.aload_n 0, 1) := by decide +kernel
theorem dX1_recover_41 : decode cX1_recover 41 = .ok (.getfield 13, 3) := by decide +kernel
theorem dX1_recover_44 : decode cX1_recover 44 = .ok (.bipush 32, 2) := by decide +kernel
theorem dX1_recover_46 : decode cX1_recover 46 = .ok (.iaload, 1) := by decide +kernel
theorem dX1_recover_47 : decode cX1_recover 47 = .ok (.bipush 32, 2) := by decide +kernel
theorem dX1_recover_49 : decode cX1_recover 49 = .ok (.if_icmp .gt 50, 3) := by decide +kernel
theorem dX1_recover_52 : decode cX1_recover 52 = .ok (.aload_n 0, 1) := by decide +kernel
theorem dX1_recover_53 : decode cX1_recover 53 = .ok (.getfield 13, 3) := by decide +kernel
theorem dX1_recover_56 : decode cX1_recover 56 = .ok (.bipush 34, 2) := by decide +kernel
theorem dX1_recover_58 : decode cX1_recover 58 = .ok (.iconst 2, 1) := by decide +kernel
theorem dX1_recover_59 : decode cX1_recover 59 = .ok (.iload_n 2, 1) := by decide +kernel
theorem dX1_recover_60 : decode cX1_recover 60 = .ok (.imul, 1) := by decide +kernel
theorem dX1_recover_61 : decode cX1_recover 61 = .ok (.iadd, 1) := by decide +kernel
theorem dX1_recover_62 : decode cX1_recover 62 = .ok (.iaload, 1) := by decide +kernel
theorem dX1_recover_63 : decode cX1_recover 63 = .ok (.istore_n 3, 1) := by decide +kernel
theorem dX1_recover_64 : decode cX1_recover 64 = .ok (.iload_n 3, 1) := by decide +kernel
theorem dX1_recover_65 : decode cX1_recover 65 = .ok (.invokestatic 57, 3) := by decide +kernel
theorem dX1_recover_68 : decode cX1_recover 68 = .ok (.ifCond .eq 25, 3) := by decide +kernel
theorem dX1_recover_71 : decode cX1_recover 71 = .ok (.aload_n 0, 1) := by decide +kernel
theorem dX1_recover_72 : decode cX1_recover 72 = .ok (.getfield 13, 3) := by decide +kernel
theorem dX1_recover_75 : decode cX1_recover 75 = .ok (.iload_n 3, 1) := by decide +kernel
theorem dX1_recover_76 : decode cX1_recover 76 = .ok (.aload_n 0, 1) := by decide +kernel
theorem dX1_recover_77 : decode cX1_recover 77 = .ok (.getfield 13, 3) := by decide +kernel
theorem dX1_recover_80 : decode cX1_recover 80 = .ok (.bipush 34, 2) := by decide +kernel
theorem dX1_recover_82 : decode cX1_recover 82 = .ok (.iconst 2, 1) := by decide +kernel
theorem dX1_recover_83 : decode cX1_recover 83 = .ok (.iload_n 2, 1) := by decide +kernel
theorem dX1_recover_84 : decode cX1_recover 84 = .ok (.imul, 1) := by decide +kernel
theorem dX1_recover_85 : decode cX1_recover 85 = .ok (.iadd, 1) := by decide +kernel
theorem dX1_recover_86 : decode cX1_recover 86 = .ok (.iconst 1, 1) := by decide +kernel
theorem dX1_recover_87 : decode cX1_recover 87 = .ok (.iadd, 1) := by decide +kernel
theorem dX1_recover_88 : decode cX1_recover 88 = .ok (.iaload, 1) := by decide +kernel
theorem dX1_recover_89 : decode cX1_recover 89 = .ok (.iastore, 1) := by decide +kernel
theorem dX1_recover_90 : decode cX1_recover 90 = .ok (.iinc 1 1, 3) := by decide +kernel
theorem dX1_recover_93 : decode cX1_recover 93 = .ok (.iinc 2 1, 3) := by decide +kernel
theorem dX1_recover_96 : decode cX1_recover 96 = .ok (.goto (-67), 3) := by decide +kernel
theorem dX1_recover_99 : decode cX1_recover 99 = .ok (.aload_n 0, 1) := by decide +kernel
theorem dX1_recover_100 : decode cX1_recover 100 = .ok (.dup, 1) := by decide +kernel
theorem dX1_recover_101 : decode cX1_recover 101 = .ok (.getfield 46, 3) := by decide +kernel
theorem dX1_recover_104 : decode cX1_recover 104 = .ok (.iload_n 1, 1) := by decide +kernel
theorem dX1_recover_105 : decode cX1_recover 105 = .ok (.aload_n 0, 1) := by decide +kernel
theorem dX1_recover_106 : decode cX1_recover 106 = .ok (.getfield 13, 3) := by decide +kernel
theorem dX1_recover_109 : decode cX1_recover 109 = .ok (.bipush 32, 2) := by decide +kernel
theorem dX1_recover_111 : decode cX1_recover 111 = .ok (.iaload, 1) := by decide +kernel
theorem dX1_recover_112 : decode cX1_recover 112 = .ok (.ifCond .ne 7, 3) := by decide +kernel
theorem dX1_recover_115 : decode cX1_recover 115 = .ok (.iconst 0, 1) := by decide +kernel
theorem dX1_recover_116 : decode cX1_recover 116 = .ok (.goto 4, 3) := by decide +kernel
theorem dX1_recover_119 : decode cX1_recover 119 = .ok (.iconst 1, 1) := by decide +kernel
theorem dX1_recover_120 : decode cX1_recover 120 = .ok (.iadd, 1) := by decide +kernel
theorem dX1_recover_121 : decode cX1_recover 121 = .ok (.iadd, 1) := by decide +kernel
theorem dX1_recover_122 : decode cX1_recover 122 = .ok (.putfield 46, 3) := by decide +kernel
theorem dX1_recover_125 : decode cX1_recover 125 = .ok (.aload_n 0, 1) := by decide +kernel
theorem dX1_recover_126 : decode cX1_recover 126 = .ok (.getfield 13, 3) := by decide +kernel
theorem dX1_recover_129 : decode cX1_recover 129 = .ok (.bipush 32, 2) := by decide +kernel
theorem dX1_recover_131 : decode cX1_recover 131 = .ok (.iconst 0, 1) := by decide +kernel
theorem dX1_recover_132 : decode cX1_recover 132 = .ok (.iastore, 1) := by decide +kernel
theorem dX1_recover_133 : decode cX1_recover 133 = .ok (.iconst 0, 1) := by decide +kernel
theorem dX1_recover_134 : decode cX1_recover 134 = .ok (.istore_n 2, 1) := by decide +kernel
theorem dX1_recover_135 : decode cX1_recover 135 = .ok (.iload_n 2, 1) := by decide +kernel
theorem dX1_recover_136 : decode cX1_recover 136 = .ok (.bipush 32, 2) := by decide +kernel
theorem dX1_recover_138 : decode cX1_recover 138 = .ok (.if_icmp .ge 21, 3) := by decide +kernel
theorem dX1_recover_141 : decode cX1_recover 141 = .ok (.aload_n 0, 1) := by decide +kernel
theorem dX1_recover_142 : decode cX1_recover 142 = .ok (.getfield 7, 3) := by decide +kernel
theorem dX1_recover_145 : decode cX1_recover 145 = .ok (.iload_n 2, 1) := by decide +kernel
theorem dX1_recover_146 : decode cX1_recover 146 = .ok (.aload_n 0, 1) := by decide +kernel
theorem dX1_recover_147 : decode cX1_recover 147 = .ok (.getfield 13, 3) := by decide +kernel
theorem dX1_recover_150 : decode cX1_recover 150 = .ok (.iload_n 2, 1) := by decide +kernel
theorem dX1_recover_151 : decode cX1_recover 151 = .ok (.iaload, 1) := by decide +kernel
theorem dX1_recover_152 : decode cX1_recover 152 = .ok (.iastore, 1) := by decide +kernel
theorem dX1_recover_153 : decode cX1_recover 153 = .ok (.iinc 2 1, 3) := by decide +kernel
theorem dX1_recover_156 : decode cX1_recover 156 = .ok (.goto (-21), 3) := by decide +kernel
theorem dX1_recover_159 : decode cX1_recover 159 = .ok (.iload_n 1, 1) := by decide +kernel
theorem dX1_recover_160 : decode cX1_recover 160 = .ok (.ireturn, 1) := by decide +kernel
set_option maxRecDepth 20000 in
theorem ggX1_disk_X1_refuses : GoodIn wsX1_disk wsX1_refuses := goodIn_r _ [6, 7, 8, 9, 10, 11, 12, 13, 14, 15, 16, 17, 18] (by decide +kernel) (by decide +kernel)
set_option maxRecDepth 20000 in
theorem gX1_disk_X1_refuses : GoodIn wsX1_disk (wsV RX1 49 RX1 yX1_refuses wsX1_refuses) := goodIn_app (goodIn_of _ (by decide +kernel)) ggX1_disk_X1_refuses
theorem dX1_disk_0 : decode cX1_disk 0 = .ok (.aload_n 0, 1) := by decide +kernel
theorem dX1_disk_1 : decode cX1_disk 1 = .ok (.iload_n 1, 1) := by decide +kernel
theorem dX1_disk_2 : decode cX1_disk 2 = .ok (.ifCond .lt 9, 3) := by decide +kernel
theorem dX1_disk_5 : decode cX1_disk 5 = .ok (.iload_n 1, 1) := by decide +kernel
theorem dX1_disk_6 : decode cX1_disk 6 = .ok (.bipush 98, 2) := by decide +kernel
theorem dX1_disk_8 : decode cX1_disk 8 = .ok (.if_icmp .lt 7, 3) := by decide +kernel
theorem dX1_disk_11 : decode cX1_disk 11 = .ok (.iconst 1, 1) := by decide +kernel
theorem dX1_disk_12 : decode cX1_disk 12 = .ok (.goto 4, 3) := by decide +kernel
theorem dX1_disk_15 : decode cX1_disk 15 = .ok (.iconst 0, 1) := by decide +kernel
theorem dX1_disk_16 : decode cX1_disk 16 = .ok (.invokevirtual 49, 3) := by decide +kernel
theorem dX1_disk_19 : decode cX1_disk 19 = .ok (.ifCond .eq 7, 3) := by decide +kernel
theorem dX1_disk_22 : decode cX1_disk 22 = .ok (.iconst 0, 1) := by decide +kernel
theorem dX1_disk_23 : decode cX1_disk 23 = .ok (.goto 9, 3) := by decide +kernel
theorem dX1_disk_26 : decode cX1_disk 26 = .ok (.aload_n 0, 1) := by decide +kernel
theorem dX1_disk_27 : decode cX1_disk 27 = .ok (.getfield 13, 3) := by decide +kernel
theorem dX1_disk_30 : decode cX1_disk 30 = .ok (.iload_n 1, 1) := by decide +kernel
theorem dX1_disk_31 : decode cX1_disk 31 = .ok (.iaload, 1) := by decide +kernel
theorem dX1_disk_32 : decode cX1_disk 32 = .ok (.ireturn, 1) := by decide +kernel
set_option maxRecDepth 20000 in
theorem ggX1_spoil_X1_refuses : GoodIn wsX1_spoil wsX1_refuses := goodIn_r _ [6, 7, 8, 9, 10, 11, 12, 13, 14, 15, 16, 17, 18] (by decide +kernel) (by decide +kernel)
set_option maxRecDepth 20000 in
theorem gX1_spoil_X1_refuses : GoodIn wsX1_spoil (wsV RX1 49 RX1 yX1_refuses wsX1_refuses) := goodIn_app (goodIn_of _ (by decide +kernel)) ggX1_spoil_X1_refuses
theorem dX1_spoil_0 : decode cX1_spoil 0 = .ok (.aload_n 0, 1) := by decide +kernel
theorem dX1_spoil_1 : decode cX1_spoil 1 = .ok (.iload_n 1, 1) := by decide +kernel
theorem dX1_spoil_2 : decode cX1_spoil 2 = .ok (.ifCond .lt 9, 3) := by decide +kernel
theorem dX1_spoil_5 : decode cX1_spoil 5 = .ok (.iload_n 1, 1) := by decide +kernel
theorem dX1_spoil_6 : decode cX1_spoil 6 = .ok (.bipush 98, 2) := by decide +kernel
theorem dX1_spoil_8 : decode cX1_spoil 8 = .ok (.if_icmp .lt 7, 3) := by decide +kernel
theorem dX1_spoil_11 : decode cX1_spoil 11 = .ok (.iconst 1, 1) := by decide +kernel
theorem dX1_spoil_12 : decode cX1_spoil 12 = .ok (.goto 4, 3) := by decide +kernel
theorem dX1_spoil_15 : decode cX1_spoil 15 = .ok (.iconst 0, 1) := by decide +kernel
theorem dX1_spoil_16 : decode cX1_spoil 16 = .ok (.invokevirtual 49, 3) := by decide +kernel
theorem dX1_spoil_19 : decode cX1_spoil 19 = .ok (.ifCond .eq 5, 3) := by decide +kernel
theorem dX1_spoil_22 : decode cX1_spoil 22 = .ok (.iconst 0, 1) := by decide +kernel
theorem dX1_spoil_23 : decode cX1_spoil 23 = .ok (.ireturn, 1) := by decide +kernel
theorem dX1_spoil_24 : decode cX1_spoil 24 = .ok (.aload_n 0, 1) := by decide +kernel
theorem dX1_spoil_25 : decode cX1_spoil 25 = .ok (.getfield 13, 3) := by decide +kernel
theorem dX1_spoil_28 : decode cX1_spoil 28 = .ok (.iload_n 1, 1) := by decide +kernel
theorem dX1_spoil_29 : decode cX1_spoil 29 = .ok (.iaload, 1) := by decide +kernel
theorem dX1_spoil_30 : decode cX1_spoil 30 = .ok (.istore_n 3, 1) := by decide +kernel
theorem dX1_spoil_31 : decode cX1_spoil 31 = .ok (.aload_n 0, 1) := by decide +kernel
theorem dX1_spoil_32 : decode cX1_spoil 32 = .ok (.getfield 13, 3) := by decide +kernel
theorem dX1_spoil_35 : decode cX1_spoil 35 = .ok (.iload_n 1, 1) := by decide +kernel
theorem dX1_spoil_36 : decode cX1_spoil 36 = .ok (.iload_n 2, 1) := by decide +kernel
theorem dX1_spoil_37 : decode cX1_spoil 37 = .ok (.iastore, 1) := by decide +kernel
theorem dX1_spoil_38 : decode cX1_spoil 38 = .ok (.iload_n 3, 1) := by decide +kernel
theorem dX1_spoil_39 : decode cX1_spoil 39 = .ok (.ireturn, 1) := by decide +kernel
set_option maxRecDepth 20000 in
theorem ggX1_level_X1_refuses : GoodIn wsX1_level wsX1_refuses := goodIn_r _ [8, 9, 13, 14, 15, 16, 17, 18, 19, 20, 21, 22, 23] (by decide +kernel) (by decide +kernel)
set_option maxRecDepth 20000 in
theorem gX1_level_X1_refuses : GoodIn wsX1_level (wsV RX1 49 RX1 yX1_refuses wsX1_refuses) := goodIn_app (goodIn_of _ (by decide +kernel)) ggX1_level_X1_refuses
set_option maxRecDepth 20000 in
theorem ggX1_level_X1_bits : GoodIn wsX1_level wsX1_bits := goodIn_r _ [12] (by decide +kernel) (by decide +kernel)
set_option maxRecDepth 20000 in
theorem gX1_level_X1_bits : GoodIn wsX1_level (va_wsS RX1 32 yX1_bits wsX1_bits) := goodIn_app (goodIn_of _ (by decide +kernel)) ggX1_level_X1_bits
theorem dX1_level_0 : decode cX1_level 0 = .ok (.aload_n 0, 1) := by decide +kernel
theorem dX1_level_1 : decode cX1_level 1 = .ok (.iload_n 1, 1) := by decide +kernel
theorem dX1_level_2 : decode cX1_level 2 = .ok (.ifCond .lt 20, 3) := by decide +kernel
theorem dX1_level_5 : decode cX1_level 5 = .ok (.iload_n 1, 1) := by decide +kernel
theorem dX1_level_6 : decode cX1_level 6 = .ok (.aload_n 0, 1) := by decide +kernel
theorem dX1_level_7 : decode cX1_level 7 = .ok (.getfield 29, 3) := by decide +kernel
theorem dX1_level_10 : decode cX1_level 10 = .ok (.if_icmp .ge 12, 3) := by decide +kernel
theorem dX1_level_13 : decode cX1_level 13 = .ok (.iload_n 2, 1) := by decide +kernel
theorem dX1_level_14 : decode cX1_level 14 = .ok (.ifCond .lt 8, 3) := by decide +kernel
theorem dX1_level_17 : decode cX1_level 17 = .ok (.iload_n 2, 1) := by decide +kernel
theorem dX1_level_18 : decode cX1_level 18 = .ok (.iconst 1, 1) := by decide +kernel
theorem dX1_level_19 : decode cX1_level 19 = .ok (.if_icmp .le 7, 3) := by decide +kernel
theorem dX1_level_22 : decode cX1_level 22 = .ok (.iconst 1, 1) := by decide +kernel
theorem dX1_level_23 : decode cX1_level 23 = .ok (.goto 4, 3) := by decide +kernel
theorem dX1_level_26 : decode cX1_level 26 = .ok (.iconst 0, 1) := by decide +kernel
theorem dX1_level_27 : decode cX1_level 27 = .ok (.invokevirtual 49, 3) := by decide +kernel
theorem dX1_level_30 : decode cX1_level 30 = .ok (.ifCond .eq 7, 3) := by decide +kernel
theorem dX1_level_33 : decode cX1_level 33 = .ok (.iconst 0, 1) := by decide +kernel
theorem dX1_level_34 : decode cX1_level 34 = .ok (.goto 25, 3) := by decide +kernel
theorem dX1_level_37 : decode cX1_level 37 = .ok (.iload_n 2, 1) := by decide +kernel
theorem dX1_level_38 : decode cX1_level 38 = .ok (.ifCond .ne 15, 3) := by decide +kernel
theorem dX1_level_41 : decode cX1_level 41 = .ok (.aload_n 0, 1) := by decide +kernel
theorem dX1_level_42 : decode cX1_level 42 = .ok (.getfield 19, 3) := by decide +kernel
theorem dX1_level_45 : decode cX1_level 45 = .ok (.iload_n 1, 1) := by decide +kernel
theorem dX1_level_46 : decode cX1_level 46 = .ok (.iaload, 1) := by decide +kernel
theorem dX1_level_47 : decode cX1_level 47 = .ok (.invokestatic 32, 3) := by decide +kernel
theorem dX1_level_50 : decode cX1_level 50 = .ok (.goto 9, 3) := by decide +kernel
theorem dX1_level_53 : decode cX1_level 53 = .ok (.aload_n 0, 1) := by decide +kernel
theorem dX1_level_54 : decode cX1_level 54 = .ok (.getfield 22, 3) := by decide +kernel
theorem dX1_level_57 : decode cX1_level 57 = .ok (.iload_n 1, 1) := by decide +kernel
theorem dX1_level_58 : decode cX1_level 58 = .ok (.iaload, 1) := by decide +kernel
theorem dX1_level_59 : decode cX1_level 59 = .ok (.ireturn, 1) := by decide +kernel
set_option maxRecDepth 20000 in
theorem ggX1_about_X1_refuses : GoodIn wsX1_about wsX1_refuses := goodIn_r _ [10, 11, 29, 30, 31, 32, 33, 34, 35, 36, 37, 38, 39] (by decide +kernel) (by decide +kernel)
set_option maxRecDepth 20000 in
theorem gX1_about_X1_refuses : GoodIn wsX1_about (wsV RX1 49 RX1 yX1_refuses wsX1_refuses) := goodIn_app (goodIn_of _ (by decide +kernel)) ggX1_about_X1_refuses
set_option maxRecDepth 20000 in
theorem ggX1_about_X1_traces : GoodIn wsX1_about wsX1_traces := goodIn_r _ [15, 2, 16, 17, 18, 9, 19, 29, 30, 31, 32, 33, 34, 35, 36, 37, 38, 39] (by decide +kernel) (by decide +kernel)
set_option maxRecDepth 20000 in
theorem gX1_about_X1_traces : GoodIn wsX1_about (wsV RX1 60 RX1 yX1_traces wsX1_traces) := goodIn_app (goodIn_of _ (by decide +kernel)) ggX1_about_X1_traces
set_option maxRecDepth 20000 in
theorem ggX1_about_X1_points : GoodIn wsX1_about wsX1_points := goodIn_r _ [23, 1, 2, 24, 25, 26, 9, 27, 28, 29, 30, 31, 32, 33, 34, 35, 36, 37, 38, 39] (by decide +kernel) (by decide +kernel)
set_option maxRecDepth 20000 in
theorem gX1_about_X1_points : GoodIn wsX1_about (wsV RX1 83 RX1 yX1_points wsX1_points) := goodIn_app (goodIn_of _ (by decide +kernel)) ggX1_about_X1_points
theorem dX1_about_0 : decode cX1_about 0 = .ok (.aload_n 0, 1) := by decide +kernel
theorem dX1_about_1 : decode cX1_about 1 = .ok (.iload_n 1, 1) := by decide +kernel
theorem dX1_about_2 : decode cX1_about 2 = .ok (.ifCond .lt 9, 3) := by decide +kernel
theorem dX1_about_5 : decode cX1_about 5 = .ok (.iload_n 1, 1) := by decide +kernel
theorem dX1_about_6 : decode cX1_about 6 = .ok (.bipush 6, 2) := by decide +kernel
theorem dX1_about_8 : decode cX1_about 8 = .ok (.if_icmp .le 7, 3) := by decide +kernel
theorem dX1_about_11 : decode cX1_about 11 = .ok (.iconst 1, 1) := by decide +kernel
theorem dX1_about_12 : decode cX1_about 12 = .ok (.goto 4, 3) := by decide +kernel
theorem dX1_about_15 : decode cX1_about 15 = .ok (.iconst 0, 1) := by decide +kernel
theorem dX1_about_16 : decode cX1_about 16 = .ok (.invokevirtual 49, 3) := by decide +kernel
theorem dX1_about_19 : decode cX1_about 19 = .ok (.ifCond .eq 5, 3) := by decide +kernel
theorem dX1_about_22 : decode cX1_about 22 = .ok (.iconst 0, 1) := by decide +kernel
theorem dX1_about_23 : decode cX1_about 23 = .ok (.ireturn, 1) := by decide +kernel
theorem dX1_about_24 : decode cX1_about 24 = .ok (.iload_n 1, 1) := by decide +kernel
theorem dX1_about_25 : decode cX1_about 25 = .ok (.tableswitch 77 0 5 #[39, 44, 49, 54, 59, 64], 39) := by decide +kernel
theorem dX1_about_64 : decode cX1_about 64 = .ok (.aload_n 0, 1) := by decide +kernel
theorem dX1_about_65 : decode cX1_about 65 = .ok (.getfield 36, 3) := by decide +kernel
theorem dX1_about_68 : decode cX1_about 68 = .ok (.ireturn, 1) := by decide +kernel
theorem dX1_about_69 : decode cX1_about 69 = .ok (.aload_n 0, 1) := by decide +kernel
theorem dX1_about_70 : decode cX1_about 70 = .ok (.getfield 29, 3) := by decide +kernel
theorem dX1_about_73 : decode cX1_about 73 = .ok (.ireturn, 1) := by decide +kernel
theorem dX1_about_74 : decode cX1_about 74 = .ok (.aload_n 0, 1) := by decide +kernel
theorem dX1_about_75 : decode cX1_about 75 = .ok (.invokevirtual 60, 3) := by decide +kernel
theorem dX1_about_78 : decode cX1_about 78 = .ok (.ireturn, 1) := by decide +kernel
theorem dX1_about_79 : decode cX1_about 79 = .ok (.aload_n 0, 1) := by decide +kernel
theorem dX1_about_80 : decode cX1_about 80 = .ok (.getfield 43, 3) := by decide +kernel
theorem dX1_about_83 : decode cX1_about 83 = .ok (.ireturn, 1) := by decide +kernel
theorem dX1_about_84 : decode cX1_about 84 = .ok (.aload_n 0, 1) := by decide +kernel
theorem dX1_about_85 : decode cX1_about 85 = .ok (.getfield 46, 3) := by decide +kernel
theorem dX1_about_88 : decode cX1_about 88 = .ok (.ireturn, 1) := by decide +kernel
theorem dX1_about_89 : decode cX1_about 89 = .ok (.aload_n 0, 1) := by decide +kernel
theorem dX1_about_90 : decode cX1_about 90 = .ok (.getfield 39, 3) := by decide +kernel
theorem dX1_about_93 : decode cX1_about 93 = .ok (.ifCond .eq 7, 3) := by decide +kernel
theorem dX1_about_96 : decode cX1_about 96 = .ok (.iconst 1, 1) := by decide +kernel
theorem dX1_about_97 : decode cX1_about 97 = .ok (.goto 4, 3) := by decide +kernel
theorem dX1_about_100 : decode cX1_about 100 = .ok (.iconst 0, 1) := by decide +kernel
theorem dX1_about_101 : decode cX1_about 101 = .ok (.ireturn, 1) := by decide +kernel
theorem dX1_about_102 : decode cX1_about 102 = .ok (.aload_n 0, 1) := by decide +kernel
theorem dX1_about_103 : decode cX1_about 103 = .ok (.invokevirtual 83, 3) := by decide +kernel
theorem dX1_about_106 : decode cX1_about 106 = .ok (.ireturn, 1) := by decide +kernel
theorem dJ6_bitCount_0f7a4_0 : decode cJ6_bitCount_0f7a4 0 = .ok (.iload_n 0, 1) := by decide +kernel
theorem dJ6_bitCount_0f7a4_1 : decode cJ6_bitCount_0f7a4 1 = .ok (.iload_n 0, 1) := by decide +kernel
theorem dJ6_bitCount_0f7a4_2 : decode cJ6_bitCount_0f7a4 2 = .ok (.iconst 1, 1) := by decide +kernel
theorem dJ6_bitCount_0f7a4_3 : decode cJ6_bitCount_0f7a4 3 = .ok (.iushr, 1) := by decide +kernel
theorem dJ6_bitCount_0f7a4_4 : decode cJ6_bitCount_0f7a4 4 = .ok (.ldc_w 265, 3) := by decide +kernel
theorem dJ6_bitCount_0f7a4_7 : decode cJ6_bitCount_0f7a4 7 = .ok (.iand, 1) := by decide +kernel
theorem dJ6_bitCount_0f7a4_8 : decode cJ6_bitCount_0f7a4 8 = .ok (.isub, 1) := by decide +kernel
theorem dJ6_bitCount_0f7a4_9 : decode cJ6_bitCount_0f7a4 9 = .ok (.istore_n 0, 1) := by decide +kernel
theorem dJ6_bitCount_0f7a4_10 : decode cJ6_bitCount_0f7a4 10 = .ok (.iload_n 0, 1) := by decide +kernel
theorem dJ6_bitCount_0f7a4_11 : decode cJ6_bitCount_0f7a4 11 = .ok (.ldc_w 266, 3) := by decide +kernel
theorem dJ6_bitCount_0f7a4_14 : decode cJ6_bitCount_0f7a4 14 = .ok (.iand, 1) := by decide +kernel
theorem dJ6_bitCount_0f7a4_15 : decode cJ6_bitCount_0f7a4 15 = .ok (.iload_n 0, 1) := by decide +kernel
theorem dJ6_bitCount_0f7a4_16 : decode cJ6_bitCount_0f7a4 16 = .ok (.iconst 2, 1) := by decide +kernel
theorem dJ6_bitCount_0f7a4_17 : decode cJ6_bitCount_0f7a4 17 = .ok (.iushr, 1) := by decide +kernel
theorem dJ6_bitCount_0f7a4_18 : decode cJ6_bitCount_0f7a4 18 = .ok (.ldc_w 266, 3) := by decide +kernel
theorem dJ6_bitCount_0f7a4_21 : decode cJ6_bitCount_0f7a4 21 = .ok (.iand, 1) := by decide +kernel
theorem dJ6_bitCount_0f7a4_22 : decode cJ6_bitCount_0f7a4 22 = .ok (.iadd, 1) := by decide +kernel
theorem dJ6_bitCount_0f7a4_23 : decode cJ6_bitCount_0f7a4 23 = .ok (.istore_n 0, 1) := by decide +kernel
theorem dJ6_bitCount_0f7a4_24 : decode cJ6_bitCount_0f7a4 24 = .ok (.iload_n 0, 1) := by decide +kernel
theorem dJ6_bitCount_0f7a4_25 : decode cJ6_bitCount_0f7a4 25 = .ok (.iload_n 0, 1) := by decide +kernel
theorem dJ6_bitCount_0f7a4_26 : decode cJ6_bitCount_0f7a4 26 = .ok (.iconst 4, 1) := by decide +kernel
theorem dJ6_bitCount_0f7a4_27 : decode cJ6_bitCount_0f7a4 27 = .ok (.iushr, 1) := by decide +kernel
theorem dJ6_bitCount_0f7a4_28 : decode cJ6_bitCount_0f7a4 28 = .ok (.iadd, 1) := by decide +kernel
theorem dJ6_bitCount_0f7a4_29 : decode cJ6_bitCount_0f7a4 29 = .ok (.ldc_w 267, 3) := by decide +kernel
theorem dJ6_bitCount_0f7a4_32 : decode cJ6_bitCount_0f7a4 32 = .ok (.iand, 1) := by decide +kernel
theorem dJ6_bitCount_0f7a4_33 : decode cJ6_bitCount_0f7a4 33 = .ok (.istore_n 0, 1) := by decide +kernel
theorem dJ6_bitCount_0f7a4_34 : decode cJ6_bitCount_0f7a4 34 = .ok (.iload_n 0, 1) := by decide +kernel
theorem dJ6_bitCount_0f7a4_35 : decode cJ6_bitCount_0f7a4 35 = .ok (.iload_n 0, 1) := by decide +kernel
theorem dJ6_bitCount_0f7a4_36 : decode cJ6_bitCount_0f7a4 36 = .ok (.bipush 8, 2) := by decide +kernel
theorem dJ6_bitCount_0f7a4_38 : decode cJ6_bitCount_0f7a4 38 = .ok (.iushr, 1) := by decide +kernel
theorem dJ6_bitCount_0f7a4_39 : decode cJ6_bitCount_0f7a4 39 = .ok (.iadd, 1) := by decide +kernel
theorem dJ6_bitCount_0f7a4_40 : decode cJ6_bitCount_0f7a4 40 = .ok (.istore_n 0, 1) := by decide +kernel
theorem dJ6_bitCount_0f7a4_41 : decode cJ6_bitCount_0f7a4 41 = .ok (.iload_n 0, 1) := by decide +kernel
theorem dJ6_bitCount_0f7a4_42 : decode cJ6_bitCount_0f7a4 42 = .ok (.iload_n 0, 1) := by decide +kernel
theorem dJ6_bitCount_0f7a4_43 : decode cJ6_bitCount_0f7a4 43 = .ok (.bipush 16, 2) := by decide +kernel
theorem dJ6_bitCount_0f7a4_45 : decode cJ6_bitCount_0f7a4 45 = .ok (.iushr, 1) := by decide +kernel
theorem dJ6_bitCount_0f7a4_46 : decode cJ6_bitCount_0f7a4 46 = .ok (.iadd, 1) := by decide +kernel
theorem dJ6_bitCount_0f7a4_47 : decode cJ6_bitCount_0f7a4 47 = .ok (.istore_n 0, 1) := by decide +kernel
theorem dJ6_bitCount_0f7a4_48 : decode cJ6_bitCount_0f7a4 48 = .ok (.iload_n 0, 1) := by decide +kernel
theorem dJ6_bitCount_0f7a4_49 : decode cJ6_bitCount_0f7a4 49 = .ok (.bipush 63, 2) := by decide +kernel
theorem dJ6_bitCount_0f7a4_51 : decode cJ6_bitCount_0f7a4 51 = .ok (.iand, 1) := by decide +kernel
theorem dJ6_bitCount_0f7a4_52 : decode cJ6_bitCount_0f7a4 52 = .ok (.ireturn, 1) := by decide +kernel
theorem dJ7_fill_53178_0 : decode cJ7_fill_53178 0 = .ok (.iconst 0, 1) := by decide +kernel
theorem dJ7_fill_53178_1 : decode cJ7_fill_53178 1 = .ok (.istore_n 2, 1) := by decide +kernel
theorem dJ7_fill_53178_2 : decode cJ7_fill_53178 2 = .ok (.aload_n 0, 1) := by decide +kernel
theorem dJ7_fill_53178_3 : decode cJ7_fill_53178 3 = .ok (.arraylength, 1) := by decide +kernel
theorem dJ7_fill_53178_4 : decode cJ7_fill_53178 4 = .ok (.istore_n 3, 1) := by decide +kernel
theorem dJ7_fill_53178_5 : decode cJ7_fill_53178 5 = .ok (.iload_n 2, 1) := by decide +kernel
theorem dJ7_fill_53178_6 : decode cJ7_fill_53178 6 = .ok (.iload_n 3, 1) := by decide +kernel
theorem dJ7_fill_53178_7 : decode cJ7_fill_53178 7 = .ok (.if_icmp .ge 13, 3) := by decide +kernel
theorem dJ7_fill_53178_10 : decode cJ7_fill_53178 10 = .ok (.aload_n 0, 1) := by decide +kernel
theorem dJ7_fill_53178_11 : decode cJ7_fill_53178 11 = .ok (.iload_n 2, 1) := by decide +kernel
theorem dJ7_fill_53178_12 : decode cJ7_fill_53178 12 = .ok (.iload_n 1, 1) := by decide +kernel
theorem dJ7_fill_53178_13 : decode cJ7_fill_53178 13 = .ok (.iastore, 1) := by decide +kernel
theorem dJ7_fill_53178_14 : decode cJ7_fill_53178 14 = .ok (.iinc 2 1, 3) := by decide +kernel
theorem dJ7_fill_53178_17 : decode cJ7_fill_53178 17 = .ok (.goto (-12), 3) := by decide +kernel
theorem dJ7_fill_53178_20 : decode cJ7_fill_53178 20 = .ok (.return_, 1) := by decide +kernel
set_option maxRecDepth 20000 in
theorem ggL_begin_X0_begin : GoodIn wsL_begin wsX0_begin := goodIn_ca (goodIn_r _ [6, 7, 8, 9, 10, 11, 12, 5, 13, 14, 15, 16, 17, 18, 19, 20, 21, 22, 23, 24, 25, 26, 27, 28, 29, 30, 31, 32] (by decide +kernel) (by decide +kernel)) (goodIn_sub (fun _ h => List.mem_cons_of_mem _ (List.mem_append_right _ h)) (by decide +kernel))
set_option maxRecDepth 20000 in
theorem gL_begin_X0_begin : GoodIn wsL_begin (wsV RL 7 RX0 yX0_begin wsX0_begin) := goodIn_app (goodIn_of _ (by decide +kernel)) ggL_begin_X0_begin
theorem dL_begin_0 : decode cL_begin 0 = .ok (.aload_n 1, 1) := by decide +kernel
theorem dL_begin_1 : decode cL_begin 1 = .ok (.iconst 0, 1) := by decide +kernel
theorem dL_begin_2 : decode cL_begin 2 = .ok (.aload_n 0, 1) := by decide +kernel
theorem dL_begin_3 : decode cL_begin 3 = .ok (.invokevirtual 7, 3) := by decide +kernel
theorem dL_begin_6 : decode cL_begin 6 = .ok (.i2l, 1) := by decide +kernel
theorem dL_begin_7 : decode cL_begin 7 = .ok (.lastore, 1) := by decide +kernel
theorem dL_begin_8 : decode cL_begin 8 = .ok (.goto 6, 3) := by decide +kernel
theorem dL_begin_11 : decode cL_begin 11 = .ok (.astore_n 2, 1) := by decide +kernel
theorem dL_begin_12 : decode cL_begin 12 = .ok (.iconst 1, 1) := by decide +kernel
theorem dL_begin_13 : decode cL_begin 13 = .ok (.ireturn, 1) := by decide +kernel
theorem dL_begin_14 : decode cL_begin 14 = .ok (.iconst 0, 1) := by decide +kernel
theorem dL_begin_15 : decode cL_begin 15 = .ok (.ireturn, 1) := by decide +kernel
set_option maxRecDepth 20000 in
theorem ggL_write_X0_write : GoodIn wsL_write wsX0_write := goodIn_ca (goodIn_ca (goodIn_r _ [7, 8, 9, 10, 11, 12, 13, 14, 15, 6, 16, 17, 18, 19, 20, 21, 22, 23, 24, 25, 26, 27, 28, 29, 30, 31, 32, 33, 34, 35, 36, 37, 38, 39, 40, 41, 42, 43, 44, 45, 46, 47, 48, 49, 50, 51, 52, 53, 54, 55, 56, 57] (by decide +kernel) (by decide +kernel)) (goodIn_sub (fun _ h => List.mem_cons_of_mem _ (List.mem_append_left _ (List.mem_append_right _ h))) (by decide +kernel))) (goodIn_sub (fun _ h => List.mem_cons_of_mem _ (List.mem_append_right _ h)) (by decide +kernel))
set_option maxRecDepth 20000 in
theorem gL_write_X0_write : GoodIn wsL_write (wsV RL 15 RX0 yX0_write wsX0_write) := goodIn_app (goodIn_of _ (by decide +kernel)) ggL_write_X0_write
theorem dL_write_0 : decode cL_write 0 = .ok (.aload_n 3, 1) := by decide +kernel
theorem dL_write_1 : decode cL_write 1 = .ok (.iconst 0, 1) := by decide +kernel
theorem dL_write_2 : decode cL_write 2 = .ok (.aload_n 0, 1) := by decide +kernel
theorem dL_write_3 : decode cL_write 3 = .ok (.iload_n 1, 1) := by decide +kernel
theorem dL_write_4 : decode cL_write 4 = .ok (.iload_n 2, 1) := by decide +kernel
theorem dL_write_5 : decode cL_write 5 = .ok (.invokevirtual 15, 3) := by decide +kernel
theorem dL_write_8 : decode cL_write 8 = .ok (.i2l, 1) := by decide +kernel
theorem dL_write_9 : decode cL_write 9 = .ok (.lastore, 1) := by decide +kernel
theorem dL_write_10 : decode cL_write 10 = .ok (.goto 11, 3) := by decide +kernel
theorem dL_write_13 : decode cL_write 13 = .ok (.astore 4, 2) := by decide +kernel
theorem dL_write_15 : decode cL_write 15 = .ok (.iconst 1, 1) := by decide +kernel
theorem dL_write_16 : decode cL_write 16 = .ok (.ireturn, 1) := by decide +kernel
theorem dL_write_17 : decode cL_write 17 = .ok (.astore 4, 2) := by decide +kernel
theorem dL_write_19 : decode cL_write 19 = .ok (.iconst 2, 1) := by decide +kernel
theorem dL_write_20 : decode cL_write 20 = .ok (.ireturn, 1) := by decide +kernel
theorem dL_write_21 : decode cL_write 21 = .ok (.iconst 0, 1) := by decide +kernel
theorem dL_write_22 : decode cL_write 22 = .ok (.ireturn, 1) := by decide +kernel
set_option maxRecDepth 20000 in
theorem ggL_read_X0_read : GoodIn wsL_read wsX0_read := goodIn_ca (goodIn_ca (goodIn_r _ [7, 8, 9, 10, 11, 6, 12, 13, 14, 15, 16, 17, 18, 19, 20, 21, 22, 23, 24, 25, 26, 27, 28, 29, 30, 31, 32, 33, 34, 35, 36] (by decide +kernel) (by decide +kernel)) (goodIn_sub (fun _ h => List.mem_cons_of_mem _ (List.mem_append_left _ (List.mem_append_right _ h))) (by decide +kernel))) (goodIn_sub (fun _ h => List.mem_cons_of_mem _ (List.mem_append_right _ h)) (by decide +kernel))
set_option maxRecDepth 20000 in
theorem gL_read_X0_read : GoodIn wsL_read (wsV RL 21 RX0 yX0_read wsX0_read) := goodIn_app (goodIn_of _ (by decide +kernel)) ggL_read_X0_read
theorem dL_read_0 : decode cL_read 0 = .ok (.aload_n 2, 1) := by decide +kernel
theorem dL_read_1 : decode cL_read 1 = .ok (.iconst 0, 1) := by decide +kernel
theorem dL_read_2 : decode cL_read 2 = .ok (.aload_n 0, 1) := by decide +kernel
theorem dL_read_3 : decode cL_read 3 = .ok (.iload_n 1, 1) := by decide +kernel
theorem dL_read_4 : decode cL_read 4 = .ok (.invokevirtual 21, 3) := by decide +kernel
theorem dL_read_7 : decode cL_read 7 = .ok (.i2l, 1) := by decide +kernel
theorem dL_read_8 : decode cL_read 8 = .ok (.lastore, 1) := by decide +kernel
theorem dL_read_9 : decode cL_read 9 = .ok (.goto 9, 3) := by decide +kernel
theorem dL_read_12 : decode cL_read 12 = .ok (.astore_n 3, 1) := by decide +kernel
theorem dL_read_13 : decode cL_read 13 = .ok (.iconst 1, 1) := by decide +kernel
theorem dL_read_14 : decode cL_read 14 = .ok (.ireturn, 1) := by decide +kernel
theorem dL_read_15 : decode cL_read 15 = .ok (.astore_n 3, 1) := by decide +kernel
theorem dL_read_16 : decode cL_read 16 = .ok (.iconst 2, 1) := by decide +kernel
theorem dL_read_17 : decode cL_read 17 = .ok (.ireturn, 1) := by decide +kernel
theorem dL_read_18 : decode cL_read 18 = .ok (.iconst 0, 1) := by decide +kernel
theorem dL_read_19 : decode cL_read 19 = .ok (.ireturn, 1) := by decide +kernel
set_option maxRecDepth 20000 in
theorem ggL_commit_X0_commit : GoodIn wsL_commit wsX0_commit := goodIn_ca (goodIn_r _ [6, 7, 8, 9, 10, 11, 12, 5, 13, 14, 15, 16, 17, 18, 19, 20, 21, 22, 23, 24, 25, 26, 27, 28, 29, 30, 31, 32, 33, 34, 35, 36, 37, 38, 39, 40, 41, 42, 43, 44, 45, 46, 47, 48, 49, 50, 51, 52, 53, 54, 55, 56, 57, 58, 59, 60, 61, 62, 63, 64, 65, 66, 67, 68, 69, 70, 71, 72, 73, 74, 75, 76, 77, 78, 79, 80, 81, 82] (by decide +kernel) (by decide +kernel)) (goodIn_sub (fun _ h => List.mem_cons_of_mem _ (List.mem_append_right _ h)) (by decide +kernel))
set_option maxRecDepth 20000 in
theorem gL_commit_X0_commit : GoodIn wsL_commit (wsV RL 25 RX0 yX0_commit wsX0_commit) := goodIn_app (goodIn_of _ (by decide +kernel)) ggL_commit_X0_commit
theorem dL_commit_0 : decode cL_commit 0 = .ok (.aload_n 1, 1) := by decide +kernel
theorem dL_commit_1 : decode cL_commit 1 = .ok (.iconst 0, 1) := by decide +kernel
theorem dL_commit_2 : decode cL_commit 2 = .ok (.aload_n 0, 1) := by decide +kernel
theorem dL_commit_3 : decode cL_commit 3 = .ok (.invokevirtual 25, 3) := by decide +kernel
theorem dL_commit_6 : decode cL_commit 6 = .ok (.i2l, 1) := by decide +kernel
theorem dL_commit_7 : decode cL_commit 7 = .ok (.lastore, 1) := by decide +kernel
theorem dL_commit_8 : decode cL_commit 8 = .ok (.goto 6, 3) := by decide +kernel
theorem dL_commit_11 : decode cL_commit 11 = .ok (.astore_n 2, 1) := by decide +kernel
theorem dL_commit_12 : decode cL_commit 12 = .ok (.iconst 1, 1) := by decide +kernel
theorem dL_commit_13 : decode cL_commit 13 = .ok (.ireturn, 1) := by decide +kernel
theorem dL_commit_14 : decode cL_commit 14 = .ok (.iconst 0, 1) := by decide +kernel
theorem dL_commit_15 : decode cL_commit 15 = .ok (.ireturn, 1) := by decide +kernel
set_option maxRecDepth 20000 in
theorem ggL_abort_X0_abort : GoodIn wsL_abort wsX0_abort := goodIn_ca (goodIn_r _ [6, 7, 8, 9, 10, 5, 11, 12, 13, 14, 15, 16, 17, 18, 19, 20, 21, 22, 23, 24, 25, 26, 27, 28, 29, 30, 31, 32, 33, 34, 35, 36, 37, 38, 39, 40, 41, 42, 43, 44, 45] (by decide +kernel) (by decide +kernel)) (goodIn_sub (fun _ h => List.mem_cons_of_mem _ (List.mem_append_right _ h)) (by decide +kernel))
set_option maxRecDepth 20000 in
theorem gL_abort_X0_abort : GoodIn wsL_abort (wsV RL 28 RX0 yX0_abort wsX0_abort) := goodIn_app (goodIn_of _ (by decide +kernel)) ggL_abort_X0_abort
theorem dL_abort_0 : decode cL_abort 0 = .ok (.aload_n 1, 1) := by decide +kernel
theorem dL_abort_1 : decode cL_abort 1 = .ok (.iconst 0, 1) := by decide +kernel
theorem dL_abort_2 : decode cL_abort 2 = .ok (.aload_n 0, 1) := by decide +kernel
theorem dL_abort_3 : decode cL_abort 3 = .ok (.invokevirtual 28, 3) := by decide +kernel
theorem dL_abort_6 : decode cL_abort 6 = .ok (.i2l, 1) := by decide +kernel
theorem dL_abort_7 : decode cL_abort 7 = .ok (.lastore, 1) := by decide +kernel
theorem dL_abort_8 : decode cL_abort 8 = .ok (.goto 6, 3) := by decide +kernel
theorem dL_abort_11 : decode cL_abort 11 = .ok (.astore_n 2, 1) := by decide +kernel
theorem dL_abort_12 : decode cL_abort 12 = .ok (.iconst 1, 1) := by decide +kernel
theorem dL_abort_13 : decode cL_abort 13 = .ok (.ireturn, 1) := by decide +kernel
theorem dL_abort_14 : decode cL_abort 14 = .ok (.iconst 0, 1) := by decide +kernel
theorem dL_abort_15 : decode cL_abort 15 = .ok (.ireturn, 1) := by decide +kernel
set_option maxRecDepth 20000 in
theorem ggL_point_X0_point : GoodIn wsL_point wsX0_point := goodIn_ca (goodIn_ca (goodIn_r _ [7, 8, 9, 10, 6, 11, 12, 13, 14, 15, 16, 17, 18, 19, 20, 21, 22, 23, 24, 25, 26, 27, 28, 29, 30, 31, 32, 33, 34, 35, 36, 37, 38, 39, 40, 41, 42, 43, 44, 45, 46, 47, 48, 49, 50, 51, 52, 53, 54, 55, 56, 57, 58, 59, 60, 61, 62, 63, 64, 65, 66, 67, 68, 69, 70] (by decide +kernel) (by decide +kernel)) (goodIn_sub (fun _ h => List.mem_cons_of_mem _ (List.mem_append_left _ (List.mem_append_right _ h))) (by decide +kernel))) (goodIn_sub (fun _ h => List.mem_cons_of_mem _ (List.mem_append_right _ h)) (by decide +kernel))
set_option maxRecDepth 20000 in
theorem gL_point_X0_point : GoodIn wsL_point (wsV RL 31 RX0 yX0_point wsX0_point) := goodIn_app (goodIn_of _ (by decide +kernel)) ggL_point_X0_point
theorem dL_point_0 : decode cL_point 0 = .ok (.aload_n 2, 1) := by decide +kernel
theorem dL_point_1 : decode cL_point 1 = .ok (.iconst 0, 1) := by decide +kernel
theorem dL_point_2 : decode cL_point 2 = .ok (.aload_n 0, 1) := by decide +kernel
theorem dL_point_3 : decode cL_point 3 = .ok (.iload_n 1, 1) := by decide +kernel
theorem dL_point_4 : decode cL_point 4 = .ok (.invokevirtual 31, 3) := by decide +kernel
theorem dL_point_7 : decode cL_point 7 = .ok (.i2l, 1) := by decide +kernel
theorem dL_point_8 : decode cL_point 8 = .ok (.lastore, 1) := by decide +kernel
theorem dL_point_9 : decode cL_point 9 = .ok (.goto 9, 3) := by decide +kernel
theorem dL_point_12 : decode cL_point 12 = .ok (.astore_n 3, 1) := by decide +kernel
theorem dL_point_13 : decode cL_point 13 = .ok (.iconst 1, 1) := by decide +kernel
theorem dL_point_14 : decode cL_point 14 = .ok (.ireturn, 1) := by decide +kernel
theorem dL_point_15 : decode cL_point 15 = .ok (.astore_n 3, 1) := by decide +kernel
theorem dL_point_16 : decode cL_point 16 = .ok (.iconst 2, 1) := by decide +kernel
theorem dL_point_17 : decode cL_point 17 = .ok (.ireturn, 1) := by decide +kernel
theorem dL_point_18 : decode cL_point 18 = .ok (.iconst 0, 1) := by decide +kernel
theorem dL_point_19 : decode cL_point 19 = .ok (.ireturn, 1) := by decide +kernel
set_option maxRecDepth 20000 in
theorem ggL_back_X0_back : GoodIn wsL_back wsX0_back := goodIn_ca (goodIn_ca (goodIn_r _ [7, 8, 9, 10, 6, 11, 12, 13, 14, 15, 16, 17, 18, 19, 20, 21, 22, 23, 24, 25, 26, 27, 28, 29, 30, 31, 32, 33, 34, 35, 36, 37, 38, 39, 40, 41, 42, 43, 44, 45, 46, 47, 48, 49, 50, 51, 52, 53, 54, 55, 56, 57, 58, 59, 60, 61, 62, 63, 64] (by decide +kernel) (by decide +kernel)) (goodIn_sub (fun _ h => List.mem_cons_of_mem _ (List.mem_append_left _ (List.mem_append_right _ h))) (by decide +kernel))) (goodIn_sub (fun _ h => List.mem_cons_of_mem _ (List.mem_append_right _ h)) (by decide +kernel))
set_option maxRecDepth 20000 in
theorem gL_back_X0_back : GoodIn wsL_back (wsV RL 34 RX0 yX0_back wsX0_back) := goodIn_app (goodIn_of _ (by decide +kernel)) ggL_back_X0_back
theorem dL_back_0 : decode cL_back 0 = .ok (.aload_n 2, 1) := by decide +kernel
theorem dL_back_1 : decode cL_back 1 = .ok (.iconst 0, 1) := by decide +kernel
theorem dL_back_2 : decode cL_back 2 = .ok (.aload_n 0, 1) := by decide +kernel
theorem dL_back_3 : decode cL_back 3 = .ok (.iload_n 1, 1) := by decide +kernel
theorem dL_back_4 : decode cL_back 4 = .ok (.invokevirtual 34, 3) := by decide +kernel
theorem dL_back_7 : decode cL_back 7 = .ok (.i2l, 1) := by decide +kernel
theorem dL_back_8 : decode cL_back 8 = .ok (.lastore, 1) := by decide +kernel
theorem dL_back_9 : decode cL_back 9 = .ok (.goto 9, 3) := by decide +kernel
theorem dL_back_12 : decode cL_back 12 = .ok (.astore_n 3, 1) := by decide +kernel
theorem dL_back_13 : decode cL_back 13 = .ok (.iconst 1, 1) := by decide +kernel
theorem dL_back_14 : decode cL_back 14 = .ok (.ireturn, 1) := by decide +kernel
theorem dL_back_15 : decode cL_back 15 = .ok (.astore_n 3, 1) := by decide +kernel
theorem dL_back_16 : decode cL_back 16 = .ok (.iconst 2, 1) := by decide +kernel
theorem dL_back_17 : decode cL_back 17 = .ok (.ireturn, 1) := by decide +kernel
theorem dL_back_18 : decode cL_back 18 = .ok (.iconst 0, 1) := by decide +kernel
theorem dL_back_19 : decode cL_back 19 = .ok (.ireturn, 1) := by decide +kernel
set_option maxRecDepth 20000 in
theorem ggL_release_X0_release : GoodIn wsL_release wsX0_release := goodIn_ca (goodIn_ca (goodIn_r _ [7, 8, 9, 10, 6, 11, 12, 13, 14, 15, 16, 17, 18, 19, 20, 21, 22, 23, 24, 25, 26, 27, 28, 29, 30, 31, 32, 33, 34, 35, 36, 37, 38, 39, 40, 41, 42, 43, 44, 45, 46, 47, 48, 49, 50, 51, 52, 53, 54, 55, 56, 57, 58, 59, 60, 61, 62, 63, 64, 65, 66, 67, 68, 69, 70] (by decide +kernel) (by decide +kernel)) (goodIn_sub (fun _ h => List.mem_cons_of_mem _ (List.mem_append_left _ (List.mem_append_right _ h))) (by decide +kernel))) (goodIn_sub (fun _ h => List.mem_cons_of_mem _ (List.mem_append_right _ h)) (by decide +kernel))
set_option maxRecDepth 20000 in
theorem gL_release_X0_release : GoodIn wsL_release (wsV RL 37 RX0 yX0_release wsX0_release) := goodIn_app (goodIn_of _ (by decide +kernel)) ggL_release_X0_release
theorem dL_release_0 : decode cL_release 0 = .ok (.aload_n 2, 1) := by decide +kernel
theorem dL_release_1 : decode cL_release 1 = .ok (.iconst 0, 1) := by decide +kernel
theorem dL_release_2 : decode cL_release 2 = .ok (.aload_n 0, 1) := by decide +kernel
theorem dL_release_3 : decode cL_release 3 = .ok (.iload_n 1, 1) := by decide +kernel
theorem dL_release_4 : decode cL_release 4 = .ok (.invokevirtual 37, 3) := by decide +kernel
theorem dL_release_7 : decode cL_release 7 = .ok (.i2l, 1) := by decide +kernel
theorem dL_release_8 : decode cL_release 8 = .ok (.lastore, 1) := by decide +kernel
theorem dL_release_9 : decode cL_release 9 = .ok (.goto 9, 3) := by decide +kernel
theorem dL_release_12 : decode cL_release 12 = .ok (.astore_n 3, 1) := by decide +kernel
theorem dL_release_13 : decode cL_release 13 = .ok (.iconst 1, 1) := by decide +kernel
theorem dL_release_14 : decode cL_release 14 = .ok (.ireturn, 1) := by decide +kernel
theorem dL_release_15 : decode cL_release 15 = .ok (.astore_n 3, 1) := by decide +kernel
theorem dL_release_16 : decode cL_release 16 = .ok (.iconst 2, 1) := by decide +kernel
theorem dL_release_17 : decode cL_release 17 = .ok (.ireturn, 1) := by decide +kernel
theorem dL_release_18 : decode cL_release 18 = .ok (.iconst 0, 1) := by decide +kernel
theorem dL_release_19 : decode cL_release 19 = .ok (.ireturn, 1) := by decide +kernel
set_option maxRecDepth 20000 in
theorem ggL_disk_X0_disk : GoodIn wsL_disk wsX0_disk := goodIn_ca (goodIn_r _ [6, 7, 8, 9, 10, 5, 11, 12, 13, 14, 15, 16, 17, 18, 19, 20, 21, 22, 23, 24, 25] (by decide +kernel) (by decide +kernel)) (goodIn_sub (fun _ h => List.mem_cons_of_mem _ (List.mem_append_right _ h)) (by decide +kernel))
set_option maxRecDepth 20000 in
theorem gL_disk_X0_disk : GoodIn wsL_disk (wsV RL 40 RX0 yX0_disk wsX0_disk) := goodIn_app (goodIn_of _ (by decide +kernel)) ggL_disk_X0_disk
theorem dL_disk_0 : decode cL_disk 0 = .ok (.aload_n 2, 1) := by decide +kernel
theorem dL_disk_1 : decode cL_disk 1 = .ok (.iconst 0, 1) := by decide +kernel
theorem dL_disk_2 : decode cL_disk 2 = .ok (.aload_n 0, 1) := by decide +kernel
theorem dL_disk_3 : decode cL_disk 3 = .ok (.iload_n 1, 1) := by decide +kernel
theorem dL_disk_4 : decode cL_disk 4 = .ok (.invokevirtual 40, 3) := by decide +kernel
theorem dL_disk_7 : decode cL_disk 7 = .ok (.i2l, 1) := by decide +kernel
theorem dL_disk_8 : decode cL_disk 8 = .ok (.lastore, 1) := by decide +kernel
theorem dL_disk_9 : decode cL_disk 9 = .ok (.goto 6, 3) := by decide +kernel
theorem dL_disk_12 : decode cL_disk 12 = .ok (.astore_n 3, 1) := by decide +kernel
theorem dL_disk_13 : decode cL_disk 13 = .ok (.iconst 1, 1) := by decide +kernel
theorem dL_disk_14 : decode cL_disk 14 = .ok (.ireturn, 1) := by decide +kernel
theorem dL_disk_15 : decode cL_disk 15 = .ok (.iconst 0, 1) := by decide +kernel
theorem dL_disk_16 : decode cL_disk 16 = .ok (.ireturn, 1) := by decide +kernel
set_option maxRecDepth 20000 in
theorem ggL_spoil_X0_spoil : GoodIn wsL_spoil wsX0_spoil := goodIn_ca (goodIn_r _ [6, 7, 8, 9, 10, 5, 11, 12, 13, 14, 15, 16, 17, 18, 19, 20, 21, 22, 23, 24, 25] (by decide +kernel) (by decide +kernel)) (goodIn_sub (fun _ h => List.mem_cons_of_mem _ (List.mem_append_right _ h)) (by decide +kernel))
set_option maxRecDepth 20000 in
theorem gL_spoil_X0_spoil : GoodIn wsL_spoil (wsV RL 43 RX0 yX0_spoil wsX0_spoil) := goodIn_app (goodIn_of _ (by decide +kernel)) ggL_spoil_X0_spoil
theorem dL_spoil_0 : decode cL_spoil 0 = .ok (.aload_n 3, 1) := by decide +kernel
theorem dL_spoil_1 : decode cL_spoil 1 = .ok (.iconst 0, 1) := by decide +kernel
theorem dL_spoil_2 : decode cL_spoil 2 = .ok (.aload_n 0, 1) := by decide +kernel
theorem dL_spoil_3 : decode cL_spoil 3 = .ok (.iload_n 1, 1) := by decide +kernel
theorem dL_spoil_4 : decode cL_spoil 4 = .ok (.iload_n 2, 1) := by decide +kernel
theorem dL_spoil_5 : decode cL_spoil 5 = .ok (.invokevirtual 43, 3) := by decide +kernel
theorem dL_spoil_8 : decode cL_spoil 8 = .ok (.i2l, 1) := by decide +kernel
theorem dL_spoil_9 : decode cL_spoil 9 = .ok (.lastore, 1) := by decide +kernel
theorem dL_spoil_10 : decode cL_spoil 10 = .ok (.goto 7, 3) := by decide +kernel
theorem dL_spoil_13 : decode cL_spoil 13 = .ok (.astore 4, 2) := by decide +kernel
theorem dL_spoil_15 : decode cL_spoil 15 = .ok (.iconst 1, 1) := by decide +kernel
theorem dL_spoil_16 : decode cL_spoil 16 = .ok (.ireturn, 1) := by decide +kernel
theorem dL_spoil_17 : decode cL_spoil 17 = .ok (.iconst 0, 1) := by decide +kernel
theorem dL_spoil_18 : decode cL_spoil 18 = .ok (.ireturn, 1) := by decide +kernel
set_option maxRecDepth 20000 in
theorem ggL_level_X0_level : GoodIn wsL_level wsX0_level := goodIn_ca (goodIn_r _ [6, 7, 8, 9, 10, 11, 12, 13, 5, 14, 15, 16, 17, 18, 19, 20, 21, 22, 23, 24, 25, 26, 27, 28, 29, 30, 31, 32, 33, 34, 35, 36] (by decide +kernel) (by decide +kernel)) (goodIn_sub (fun _ h => List.mem_cons_of_mem _ (List.mem_append_right _ h)) (by decide +kernel))
set_option maxRecDepth 20000 in
theorem gL_level_X0_level : GoodIn wsL_level (wsV RL 46 RX0 yX0_level wsX0_level) := goodIn_app (goodIn_of _ (by decide +kernel)) ggL_level_X0_level
theorem dL_level_0 : decode cL_level 0 = .ok (.aload_n 3, 1) := by decide +kernel
theorem dL_level_1 : decode cL_level 1 = .ok (.iconst 0, 1) := by decide +kernel
theorem dL_level_2 : decode cL_level 2 = .ok (.aload_n 0, 1) := by decide +kernel
theorem dL_level_3 : decode cL_level 3 = .ok (.iload_n 1, 1) := by decide +kernel
theorem dL_level_4 : decode cL_level 4 = .ok (.iload_n 2, 1) := by decide +kernel
theorem dL_level_5 : decode cL_level 5 = .ok (.invokevirtual 46, 3) := by decide +kernel
theorem dL_level_8 : decode cL_level 8 = .ok (.i2l, 1) := by decide +kernel
theorem dL_level_9 : decode cL_level 9 = .ok (.lastore, 1) := by decide +kernel
theorem dL_level_10 : decode cL_level 10 = .ok (.goto 7, 3) := by decide +kernel
theorem dL_level_13 : decode cL_level 13 = .ok (.astore 4, 2) := by decide +kernel
theorem dL_level_15 : decode cL_level 15 = .ok (.iconst 1, 1) := by decide +kernel
theorem dL_level_16 : decode cL_level 16 = .ok (.ireturn, 1) := by decide +kernel
theorem dL_level_17 : decode cL_level 17 = .ok (.iconst 0, 1) := by decide +kernel
theorem dL_level_18 : decode cL_level 18 = .ok (.ireturn, 1) := by decide +kernel
set_option maxRecDepth 20000 in
theorem ggL_about_X0_about : GoodIn wsL_about wsX0_about := goodIn_ca (goodIn_r _ [6, 7, 8, 9, 10, 11, 12, 13, 14, 15, 16, 17, 5, 18, 19, 20, 21, 22, 23, 24, 25, 26, 27, 28, 29, 30, 31, 32, 33, 34, 35] (by decide +kernel) (by decide +kernel)) (goodIn_sub (fun _ h => List.mem_cons_of_mem _ (List.mem_append_right _ h)) (by decide +kernel))
set_option maxRecDepth 20000 in
theorem gL_about_X0_about : GoodIn wsL_about (wsV RL 49 RX0 yX0_about wsX0_about) := goodIn_app (goodIn_of _ (by decide +kernel)) ggL_about_X0_about
theorem dL_about_0 : decode cL_about 0 = .ok (.aload_n 2, 1) := by decide +kernel
theorem dL_about_1 : decode cL_about 1 = .ok (.iconst 0, 1) := by decide +kernel
theorem dL_about_2 : decode cL_about 2 = .ok (.aload_n 0, 1) := by decide +kernel
theorem dL_about_3 : decode cL_about 3 = .ok (.iload_n 1, 1) := by decide +kernel
theorem dL_about_4 : decode cL_about 4 = .ok (.invokevirtual 49, 3) := by decide +kernel
theorem dL_about_7 : decode cL_about 7 = .ok (.i2l, 1) := by decide +kernel
theorem dL_about_8 : decode cL_about 8 = .ok (.lastore, 1) := by decide +kernel
theorem dL_about_9 : decode cL_about 9 = .ok (.goto 6, 3) := by decide +kernel
theorem dL_about_12 : decode cL_about 12 = .ok (.astore_n 3, 1) := by decide +kernel
theorem dL_about_13 : decode cL_about 13 = .ok (.iconst 1, 1) := by decide +kernel
theorem dL_about_14 : decode cL_about 14 = .ok (.ireturn, 1) := by decide +kernel
theorem dL_about_15 : decode cL_about 15 = .ok (.iconst 0, 1) := by decide +kernel
theorem dL_about_16 : decode cL_about 16 = .ok (.ireturn, 1) := by decide +kernel
set_option maxRecDepth 20000 in
theorem ggL_law_X0_init : GoodIn wsL_law wsX0_init := goodIn_r _ [9, 10, 11, 12, 13, 14, 15, 16, 17, 18, 19, 359, 360, 361, 362, 363, 364, 365, 366, 367, 368, 369, 370] (by decide +kernel) (by decide +kernel)
set_option maxRecDepth 20000 in
theorem gL_law_X0_init : GoodIn wsL_law (wsX0_init) := ggL_law_X0_init
set_option maxRecDepth 20000 in
theorem ggL_law_X1_init : GoodIn wsL_law wsX1_init := goodIn_r _ [22, 23, 11, 12, 13, 24, 25, 26, 27, 28, 371, 372, 373, 374, 375, 376, 377, 378, 379, 380, 381] (by decide +kernel) (by decide +kernel)
set_option maxRecDepth 20000 in
theorem gL_law_X1_init : GoodIn wsL_law (wsX1_init) := ggL_law_X1_init
set_option maxRecDepth 20000 in
theorem ggL_law_X0_format : GoodIn wsL_law wsX0_format := goodIn_r _ [32, 14, 15, 33, 34, 35, 36, 37, 38, 39, 40, 41, 42, 2, 43, 44, 45, 46, 359, 360, 361, 362, 363, 364, 365, 366, 367, 368, 369, 370] (by decide +kernel) (by decide +kernel)
set_option maxRecDepth 20000 in
theorem gL_law_X0_format : GoodIn wsL_law (wsV RL 56 RX0 yX0_format wsX0_format) := goodIn_app (goodIn_of _ (by decide +kernel)) ggL_law_X0_format
set_option maxRecDepth 20000 in
theorem ggL_law_X1_format : GoodIn wsL_law wsX1_format := goodIn_r _ [50, 51, 24, 25, 52, 53, 54, 55, 56, 371, 372, 373, 374, 375, 376, 377, 378, 379, 380, 381] (by decide +kernel) (by decide +kernel)
set_option maxRecDepth 20000 in
theorem gL_law_X1_format : GoodIn wsL_law (wsV RL 59 RX1 yX1_format wsX1_format) := goodIn_app (goodIn_of _ (by decide +kernel)) ggL_law_X1_format
set_option maxRecDepth 20000 in
theorem ggL_law_L_begin : GoodIn wsL_law wsL_begin := goodIn_ca (goodIn_r _ [60, 61, 62, 63, 64, 2, 65, 66, 67, 44, 68, 69, 70, 71, 35, 72, 73, 74, 75, 16, 45, 359, 360, 361, 362, 363, 364, 365, 366, 367, 368, 369, 370] (by decide +kernel) (by decide +kernel)) (goodIn_sub (fun _ h => List.mem_append_left _ (List.mem_append_right _ h)) (by decide +kernel))
set_option maxRecDepth 20000 in
theorem gL_law_L_begin : GoodIn wsL_law (va_wsS RL 60 yL_begin wsL_begin) := goodIn_app (goodIn_of _ (by decide +kernel)) ggL_law_L_begin
set_option maxRecDepth 20000 in
theorem ggL_law_X1_begin : GoodIn wsL_law wsX1_begin := goodIn_r _ [79, 54, 53, 80, 81, 82, 5, 83, 51, 84, 85, 86, 87, 26, 52, 24, 27, 28, 371, 372, 373, 374, 375, 376, 377, 378, 379, 380, 381] (by decide +kernel) (by decide +kernel)
set_option maxRecDepth 20000 in
theorem gL_law_X1_begin : GoodIn wsL_law (wsV RL 65 RX1 yX1_begin wsX1_begin) := goodIn_app (goodIn_of _ (by decide +kernel)) ggL_law_X1_begin
set_option maxRecDepth 20000 in
theorem ggL_law_X1_thrown : GoodIn wsL_law wsX1_thrown := goodIn_r _ [91, 51, 371, 372, 373, 374, 375, 376, 377, 378, 379, 380, 381] (by decide +kernel) (by decide +kernel)
set_option maxRecDepth 20000 in
theorem gL_law_X1_thrown : GoodIn wsL_law (wsV RL 66 RX1 yX1_thrown wsX1_thrown) := goodIn_app (goodIn_of _ (by decide +kernel)) ggL_law_X1_thrown
set_option maxRecDepth 20000 in
theorem ggL_law_L_write : GoodIn wsL_law wsL_write := goodIn_ca (goodIn_ca (goodIn_r _ [94, 95, 61, 96, 97, 98, 2, 99, 66, 67, 45, 46, 15, 100, 101, 102, 103, 104, 105, 106, 107, 108, 109, 110, 111, 112, 44, 68, 69, 70, 71, 35, 113, 114, 115, 116, 17, 18, 117, 118, 119, 120, 121, 122, 123, 19, 359, 360, 361, 362, 363, 364, 365, 366, 367, 368, 369, 370] (by decide +kernel) (by decide +kernel)) (goodIn_sub (fun _ h => List.mem_append_left _ (List.mem_append_right _ h)) (by decide +kernel))) (goodIn_sub (fun _ h => List.mem_append_right _ h) (by decide +kernel))
set_option maxRecDepth 20000 in
theorem gL_law_L_write : GoodIn wsL_law (va_wsS RL 69 yL_write wsL_write) := goodIn_app (goodIn_of _ (by decide +kernel)) ggL_law_L_write
set_option maxRecDepth 20000 in
theorem ggL_law_X1_write : GoodIn wsL_law wsX1_write := goodIn_r _ [127, 54, 53, 52, 27, 24, 128, 129, 5, 130, 80, 81, 82, 83, 51, 131, 132, 133, 134, 135, 136, 137, 371, 372, 373, 374, 375, 376, 377, 378, 379, 380, 381] (by decide +kernel) (by decide +kernel)
set_option maxRecDepth 20000 in
theorem gL_law_X1_write : GoodIn wsL_law (wsV RL 72 RX1 yX1_write wsX1_write) := goodIn_app (goodIn_of _ (by decide +kernel)) ggL_law_X1_write
set_option maxRecDepth 20000 in
theorem ggL_law_L_read : GoodIn wsL_law wsL_read := goodIn_ca (goodIn_ca (goodIn_r _ [140, 95, 61, 141, 142, 143, 2, 144, 15, 100, 101, 102, 103, 104, 105, 106, 107, 108, 68, 69, 70, 71, 66, 67, 35, 359, 360, 361, 362, 363, 364, 365, 366, 367, 368, 369, 370] (by decide +kernel) (by decide +kernel)) (goodIn_sub (fun _ h => List.mem_append_right _ h) (by decide +kernel))) (goodIn_sub (fun _ h => List.mem_append_left _ (List.mem_append_right _ h)) (by decide +kernel))
set_option maxRecDepth 20000 in
theorem gL_law_L_read : GoodIn wsL_law (va_wsS RL 73 yL_read wsL_read) := goodIn_app (goodIn_of _ (by decide +kernel)) ggL_law_L_read
set_option maxRecDepth 20000 in
theorem ggL_law_X1_read : GoodIn wsL_law wsX1_read := goodIn_r _ [148, 54, 24, 128, 129, 5, 130, 80, 81, 82, 83, 51, 371, 372, 373, 374, 375, 376, 377, 378, 379, 380, 381] (by decide +kernel) (by decide +kernel)
set_option maxRecDepth 20000 in
theorem gL_law_X1_read : GoodIn wsL_law (wsV RL 76 RX1 yX1_read wsX1_read) := goodIn_app (goodIn_of _ (by decide +kernel)) ggL_law_X1_read
set_option maxRecDepth 20000 in
theorem ggL_law_L_commit : GoodIn wsL_law wsL_commit := goodIn_ca (goodIn_r _ [151, 61, 152, 153, 154, 2, 155, 45, 44, 35, 109, 110, 111, 112, 66, 67, 68, 69, 70, 71, 156, 157, 158, 159, 16, 160, 161, 162, 163, 46, 17, 18, 19, 113, 114, 115, 116, 117, 118, 119, 164, 165, 166, 167, 14, 168, 169, 170, 171, 172, 173, 174, 175, 176, 177, 178, 15, 179, 180, 181, 182, 33, 34, 183, 184, 185, 186, 40, 41, 42, 43, 359, 360, 361, 362, 363, 364, 365, 366, 367, 368, 369, 370] (by decide +kernel) (by decide +kernel)) (goodIn_sub (fun _ h => List.mem_append_left _ (List.mem_append_right _ h)) (by decide +kernel))
set_option maxRecDepth 20000 in
theorem gL_law_L_commit : GoodIn wsL_law (va_wsS RL 77 yL_commit wsL_commit) := goodIn_app (goodIn_of _ (by decide +kernel)) ggL_law_L_commit
set_option maxRecDepth 20000 in
theorem ggL_law_X1_commit : GoodIn wsL_law wsX1_commit := goodIn_r _ [190, 54, 53, 52, 27, 80, 81, 82, 5, 83, 51, 191, 192, 193, 194, 28, 195, 196, 197, 198, 26, 199, 200, 201, 202, 24, 25, 203, 204, 205, 206, 55, 56, 371, 372, 373, 374, 375, 376, 377, 378, 379, 380, 381] (by decide +kernel) (by decide +kernel)
set_option maxRecDepth 20000 in
theorem gL_law_X1_commit : GoodIn wsL_law (wsV RL 79 RX1 yX1_commit wsX1_commit) := goodIn_app (goodIn_of _ (by decide +kernel)) ggL_law_X1_commit
set_option maxRecDepth 20000 in
theorem ggL_law_L_abort : GoodIn wsL_law wsL_abort := goodIn_ca (goodIn_r _ [209, 61, 210, 211, 212, 2, 213, 44, 109, 110, 111, 112, 66, 67, 68, 69, 70, 71, 35, 156, 157, 158, 159, 45, 16, 214, 215, 216, 217, 46, 17, 15, 18, 19, 359, 360, 361, 362, 363, 364, 365, 366, 367, 368, 369, 370] (by decide +kernel) (by decide +kernel)) (goodIn_sub (fun _ h => List.mem_append_left _ (List.mem_append_right _ h)) (by decide +kernel))
set_option maxRecDepth 20000 in
theorem gL_law_L_abort : GoodIn wsL_law (va_wsS RL 80 yL_abort wsL_abort) := goodIn_app (goodIn_of _ (by decide +kernel)) ggL_law_L_abort
set_option maxRecDepth 20000 in
theorem ggL_law_X1_abort : GoodIn wsL_law wsX1_abort := goodIn_r _ [221, 54, 53, 52, 80, 81, 82, 5, 83, 51, 191, 192, 193, 194, 28, 222, 223, 224, 225, 27, 24, 26, 135, 136, 137, 371, 372, 373, 374, 375, 376, 377, 378, 379, 380, 381] (by decide +kernel) (by decide +kernel)
set_option maxRecDepth 20000 in
theorem gL_law_X1_abort : GoodIn wsL_law (wsV RL 82 RX1 yX1_abort wsX1_abort) := goodIn_app (goodIn_of _ (by decide +kernel)) ggL_law_X1_abort
set_option maxRecDepth 20000 in
theorem ggL_law_L_point : GoodIn wsL_law wsL_point := goodIn_ca (goodIn_ca (goodIn_r _ [228, 95, 61, 229, 230, 231, 2, 232, 233, 234, 235, 236, 104, 105, 109, 110, 111, 112, 66, 67, 44, 68, 69, 70, 71, 35, 237, 238, 239, 240, 45, 16, 156, 157, 158, 159, 160, 161, 162, 163, 46, 17, 18, 19, 113, 114, 115, 116, 117, 118, 119, 72, 73, 74, 75, 241, 242, 243, 244, 359, 360, 361, 362, 363, 364, 365, 366, 367, 368, 369, 370] (by decide +kernel) (by decide +kernel)) (goodIn_sub (fun _ h => List.mem_append_right _ h) (by decide +kernel))) (goodIn_sub (fun _ h => List.mem_append_left _ (List.mem_append_right _ h)) (by decide +kernel))
set_option maxRecDepth 20000 in
theorem gL_law_L_point : GoodIn wsL_law (va_wsS RL 83 yL_point wsL_point) := goodIn_app (goodIn_of _ (by decide +kernel)) ggL_law_L_point
set_option maxRecDepth 20000 in
theorem ggL_law_X1_point : GoodIn wsL_law wsX1_point := goodIn_r _ [248, 54, 53, 80, 81, 82, 5, 83, 51, 249, 250, 251, 252, 52, 28, 195, 196, 197, 198, 27, 26, 84, 85, 86, 87, 24, 253, 254, 255, 256, 191, 192, 193, 194, 371, 372, 373, 374, 375, 376, 377, 378, 379, 380, 381] (by decide +kernel) (by decide +kernel)
set_option maxRecDepth 20000 in
theorem gL_law_X1_point : GoodIn wsL_law (wsV RL 85 RX1 yX1_point wsX1_point) := goodIn_app (goodIn_of _ (by decide +kernel)) ggL_law_X1_point
set_option maxRecDepth 20000 in
theorem ggL_law_L_back : GoodIn wsL_law wsL_back := goodIn_ca (goodIn_ca (goodIn_r _ [259, 95, 61, 260, 261, 262, 2, 263, 233, 234, 235, 236, 104, 105, 109, 110, 111, 112, 66, 67, 44, 68, 69, 70, 71, 35, 264, 265, 266, 267, 237, 238, 239, 240, 45, 16, 156, 157, 158, 159, 214, 215, 216, 217, 46, 17, 15, 18, 19, 72, 73, 74, 75, 359, 360, 361, 362, 363, 364, 365, 366, 367, 368, 369, 370] (by decide +kernel) (by decide +kernel)) (goodIn_sub (fun _ h => List.mem_append_right _ h) (by decide +kernel))) (goodIn_sub (fun _ h => List.mem_append_left _ (List.mem_append_right _ h)) (by decide +kernel))
set_option maxRecDepth 20000 in
theorem gL_law_L_back : GoodIn wsL_law (va_wsS RL 86 yL_back wsL_back) := goodIn_app (goodIn_of _ (by decide +kernel)) ggL_law_L_back
set_option maxRecDepth 20000 in
theorem ggL_law_X1_back : GoodIn wsL_law wsX1_back := goodIn_r _ [271, 52, 27, 272, 273, 274, 5, 275, 54, 53, 249, 250, 251, 252, 28, 80, 81, 82, 83, 51, 222, 223, 224, 225, 24, 26, 135, 136, 137, 371, 372, 373, 374, 375, 376, 377, 378, 379, 380, 381] (by decide +kernel) (by decide +kernel)
set_option maxRecDepth 20000 in
theorem gL_law_X1_back : GoodIn wsL_law (wsV RL 88 RX1 yX1_back wsX1_back) := goodIn_app (goodIn_of _ (by decide +kernel)) ggL_law_X1_back
set_option maxRecDepth 20000 in
theorem ggL_law_L_release : GoodIn wsL_law wsL_release := goodIn_ca (goodIn_ca (goodIn_r _ [278, 95, 61, 279, 280, 281, 2, 282, 233, 234, 235, 236, 104, 105, 109, 110, 111, 112, 66, 67, 44, 68, 69, 70, 71, 35, 264, 265, 266, 267, 237, 238, 239, 240, 45, 16, 156, 157, 158, 159, 160, 161, 162, 163, 46, 17, 18, 19, 113, 114, 115, 116, 117, 118, 119, 241, 242, 243, 244, 359, 360, 361, 362, 363, 364, 365, 366, 367, 368, 369, 370] (by decide +kernel) (by decide +kernel)) (goodIn_sub (fun _ h => List.mem_append_right _ h) (by decide +kernel))) (goodIn_sub (fun _ h => List.mem_append_left _ (List.mem_append_right _ h)) (by decide +kernel))
set_option maxRecDepth 20000 in
theorem gL_law_L_release : GoodIn wsL_law (va_wsS RL 89 yL_release wsL_release) := goodIn_app (goodIn_of _ (by decide +kernel)) ggL_law_L_release
set_option maxRecDepth 20000 in
theorem ggL_law_X1_release : GoodIn wsL_law wsX1_release := goodIn_r _ [286, 272, 273, 274, 5, 275, 54, 53, 249, 250, 251, 252, 52, 28, 80, 81, 82, 83, 51, 195, 196, 197, 198, 27, 26, 253, 254, 255, 256, 191, 192, 193, 194, 371, 372, 373, 374, 375, 376, 377, 378, 379, 380, 381] (by decide +kernel) (by decide +kernel)
set_option maxRecDepth 20000 in
theorem gL_law_X1_release : GoodIn wsL_law (wsV RL 91 RX1 yX1_release wsX1_release) := goodIn_app (goodIn_of _ (by decide +kernel)) ggL_law_X1_release
set_option maxRecDepth 20000 in
theorem ggL_law_X0_crash : GoodIn wsL_law wsX0_crash := goodIn_r _ [290, 33, 359, 360, 361, 362, 363, 364, 365, 366, 367, 368, 369, 370] (by decide +kernel) (by decide +kernel)
set_option maxRecDepth 20000 in
theorem gL_law_X0_crash : GoodIn wsL_law (wsV RL 92 RX0 yX0_crash wsX0_crash) := goodIn_app (goodIn_of _ (by decide +kernel)) ggL_law_X0_crash
set_option maxRecDepth 20000 in
theorem ggL_law_X1_crash : GoodIn wsL_law wsX1_crash := goodIn_r _ [294, 51, 55, 371, 372, 373, 374, 375, 376, 377, 378, 379, 380, 381] (by decide +kernel) (by decide +kernel)
set_option maxRecDepth 20000 in
theorem gL_law_X1_crash : GoodIn wsL_law (wsV RL 96 RX1 yX1_crash wsX1_crash) := goodIn_app (goodIn_of _ (by decide +kernel)) ggL_law_X1_crash
set_option maxRecDepth 20000 in
theorem ggL_law_X0_recover : GoodIn wsL_law wsX0_recover := goodIn_r _ [298, 33, 35, 14, 15, 299, 300, 301, 302, 40, 41, 42, 2, 43, 44, 45, 46, 303, 304, 305, 306, 106, 107, 108, 179, 180, 181, 182, 34, 359, 360, 361, 362, 363, 364, 365, 366, 367, 368, 369, 370] (by decide +kernel) (by decide +kernel)
set_option maxRecDepth 20000 in
theorem gL_law_X0_recover : GoodIn wsL_law (wsV RL 97 RX0 yX0_recover wsX0_recover) := goodIn_app (goodIn_of _ (by decide +kernel)) ggL_law_X0_recover
set_option maxRecDepth 20000 in
theorem ggL_law_X1_recover : GoodIn wsL_law wsX1_recover := goodIn_r _ [310, 51, 55, 54, 52, 53, 25, 56, 24, 128, 129, 5, 130, 371, 372, 373, 374, 375, 376, 377, 378, 379, 380, 381] (by decide +kernel) (by decide +kernel)
set_option maxRecDepth 20000 in
theorem gL_law_X1_recover : GoodIn wsL_law (wsV RL 100 RX1 yX1_recover wsX1_recover) := goodIn_app (goodIn_of _ (by decide +kernel)) ggL_law_X1_recover
set_option maxRecDepth 20000 in
theorem ggL_law_L_disk : GoodIn wsL_law wsL_disk := goodIn_ca (goodIn_r _ [313, 95, 314, 315, 316, 2, 317, 14, 318, 319, 320, 321, 104, 105, 359, 360, 361, 362, 363, 364, 365, 366, 367, 368, 369, 370] (by decide +kernel) (by decide +kernel)) (goodIn_sub (fun _ h => List.mem_append_right _ h) (by decide +kernel))
set_option maxRecDepth 20000 in
theorem gL_law_L_disk : GoodIn wsL_law (va_wsS RL 101 yL_disk wsL_disk) := goodIn_app (goodIn_of _ (by decide +kernel)) ggL_law_L_disk
set_option maxRecDepth 20000 in
theorem ggL_law_X1_disk : GoodIn wsL_law wsX1_disk := goodIn_r _ [325, 25, 80, 81, 82, 5, 83, 51, 371, 372, 373, 374, 375, 376, 377, 378, 379, 380, 381] (by decide +kernel) (by decide +kernel)
set_option maxRecDepth 20000 in
theorem gL_law_X1_disk : GoodIn wsL_law (wsV RL 103 RX1 yX1_disk wsX1_disk) := goodIn_app (goodIn_of _ (by decide +kernel)) ggL_law_X1_disk
set_option maxRecDepth 20000 in
theorem ggL_law_L_spoil : GoodIn wsL_law wsL_spoil := goodIn_ca (goodIn_r _ [328, 95, 329, 330, 331, 2, 332, 14, 318, 319, 320, 321, 104, 105, 359, 360, 361, 362, 363, 364, 365, 366, 367, 368, 369, 370] (by decide +kernel) (by decide +kernel)) (goodIn_sub (fun _ h => List.mem_append_right _ h) (by decide +kernel))
set_option maxRecDepth 20000 in
theorem gL_law_L_spoil : GoodIn wsL_law (va_wsS RL 104 yL_spoil wsL_spoil) := goodIn_app (goodIn_of _ (by decide +kernel)) ggL_law_L_spoil
set_option maxRecDepth 20000 in
theorem ggL_law_X1_spoil : GoodIn wsL_law wsX1_spoil := goodIn_r _ [336, 25, 80, 81, 82, 5, 83, 51, 371, 372, 373, 374, 375, 376, 377, 378, 379, 380, 381] (by decide +kernel) (by decide +kernel)
set_option maxRecDepth 20000 in
theorem gL_law_X1_spoil : GoodIn wsL_law (wsV RL 106 RX1 yX1_spoil wsX1_spoil) := goodIn_app (goodIn_of _ (by decide +kernel)) ggL_law_X1_spoil
set_option maxRecDepth 20000 in
theorem ggL_law_L_level : GoodIn wsL_law wsL_level := goodIn_ca (goodIn_r _ [339, 95, 340, 341, 342, 2, 343, 104, 105, 45, 16, 113, 114, 115, 116, 46, 17, 18, 168, 169, 170, 171, 172, 173, 174, 359, 360, 361, 362, 363, 364, 365, 366, 367, 368, 369, 370] (by decide +kernel) (by decide +kernel)) (goodIn_sub (fun _ h => List.mem_append_right _ h) (by decide +kernel))
set_option maxRecDepth 20000 in
theorem gL_law_L_level : GoodIn wsL_law (va_wsS RL 107 yL_level wsL_level) := goodIn_app (goodIn_of _ (by decide +kernel)) ggL_law_L_level
set_option maxRecDepth 20000 in
theorem ggL_law_X1_level : GoodIn wsL_law wsX1_level := goodIn_r _ [347, 52, 27, 28, 80, 81, 82, 5, 83, 51, 135, 136, 137, 371, 372, 373, 374, 375, 376, 377, 378, 379, 380, 381] (by decide +kernel) (by decide +kernel)
set_option maxRecDepth 20000 in
theorem gL_law_X1_level : GoodIn wsL_law (wsV RL 109 RX1 yX1_level wsX1_level) := goodIn_app (goodIn_of _ (by decide +kernel)) ggL_law_X1_level
set_option maxRecDepth 20000 in
theorem ggL_law_L_about : GoodIn wsL_law wsL_about := goodIn_ca (goodIn_r _ [350, 95, 351, 352, 353, 2, 354, 104, 105, 44, 45, 46, 33, 34, 35, 241, 242, 243, 244, 156, 157, 158, 159, 16, 359, 360, 361, 362, 363, 364, 365, 366, 367, 368, 369, 370] (by decide +kernel) (by decide +kernel)) (goodIn_sub (fun _ h => List.mem_append_right _ h) (by decide +kernel))
set_option maxRecDepth 20000 in
theorem gL_law_L_about : GoodIn wsL_law (va_wsS RL 110 yL_about wsL_about) := goodIn_app (goodIn_of _ (by decide +kernel)) ggL_law_L_about
set_option maxRecDepth 20000 in
theorem ggL_law_X1_about : GoodIn wsL_law wsX1_about := goodIn_r _ [358, 53, 52, 55, 56, 54, 80, 81, 82, 5, 83, 51, 131, 132, 133, 134, 27, 135, 136, 137, 253, 254, 255, 256, 191, 192, 193, 194, 28, 371, 372, 373, 374, 375, 376, 377, 378, 379, 380, 381] (by decide +kernel) (by decide +kernel)
set_option maxRecDepth 20000 in
theorem gL_law_X1_about : GoodIn wsL_law (wsV RL 112 RX1 yX1_about wsX1_about) := goodIn_app (goodIn_of _ (by decide +kernel)) ggL_law_X1_about
theorem dL_law_0 : decode cL_law 0 = .ok (.new 8, 3) := by decide +kernel
theorem dL_law_3 : decode cL_law 3 = .ok (.dup, 1) := by decide +kernel
theorem dL_law_4 : decode cL_law 4 = .ok (.invokespecial 52, 3) := by decide +kernel
theorem dL_law_7 : decode cL_law 7 = .ok (.astore_n 1, 1) := by decide +kernel
theorem dL_law_8 : decode cL_law 8 = .ok (.new 53, 3) := by decide +kernel
theorem dL_law_11 : decode cL_law 11 = .ok (.dup, 1) := by decide +kernel
theorem dL_law_12 : decode cL_law 12 = .ok (.invokespecial 55, 3) := by decide +kernel
theorem dL_law_15 : decode cL_law 15 = .ok (.astore_n 2, 1) := by decide +kernel
theorem dL_law_16 : decode cL_law 16 = .ok (.iconst 1, 1) := by decide +kernel
theorem dL_law_17 : decode cL_law 17 = .ok (.newarray .long, 2) := by decide +kernel
theorem dL_law_19 : decode cL_law 19 = .ok (.astore_n 3, 1) := by decide +kernel
theorem dL_law_20 : decode cL_law 20 = .ok (.iconst 0, 1) := by decide +kernel
theorem dL_law_21 : decode cL_law 21 = .ok (.istore 4, 2) := by decide +kernel
theorem dL_law_23 : decode cL_law 23 = .ok (.iload 4, 2) := by decide +kernel
theorem dL_law_25 : decode cL_law 25 = .ok (.aload_n 0, 1) := by decide +kernel
theorem dL_law_26 : decode cL_law 26 = .ok (.arraylength, 1) := by decide +kernel
theorem dL_law_27 : decode cL_law 27 = .ok (.iconst 3, 1) := by decide +kernel
theorem dL_law_28 : decode cL_law 28 = .ok (.isub, 1) := by decide +kernel
theorem dL_law_29 : decode cL_law 29 = .ok (.if_icmp .gt 808, 3) := by decide +kernel
theorem dL_law_32 : decode cL_law 32 = .ok (.aload_n 0, 1) := by decide +kernel
theorem dL_law_33 : decode cL_law 33 = .ok (.iload 4, 2) := by decide +kernel
theorem dL_law_35 : decode cL_law 35 = .ok (.iaload, 1) := by decide +kernel
theorem dL_law_36 : decode cL_law 36 = .ok (.bipush 15, 2) := by decide +kernel
theorem dL_law_38 : decode cL_law 38 = .ok (.iand, 1) := by decide +kernel
theorem dL_law_39 : decode cL_law 39 = .ok (.tableswitch 792 0 14 #[73, 84, 128, 196, 252, 296, 340, 396, 452, 508, 531, 544, 600, 668, 736], 73) := by decide +kernel
theorem dL_law_112 : decode cL_law 112 = .ok (.aload_n 1, 1) := by decide +kernel
theorem dL_law_113 : decode cL_law 113 = .ok (.invokevirtual 56, 3) := by decide +kernel
theorem dL_law_116 : decode cL_law 116 = .ok (.aload_n 2, 1) := by decide +kernel
theorem dL_law_117 : decode cL_law 117 = .ok (.invokevirtual 59, 3) := by decide +kernel
theorem dL_law_120 : decode cL_law 120 = .ok (.goto 711, 3) := by decide +kernel
theorem dL_law_123 : decode cL_law 123 = .ok (.aload_n 1, 1) := by decide +kernel
theorem dL_law_124 : decode cL_law 124 = .ok (.aload_n 3, 1) := by decide +kernel
theorem dL_law_125 : decode cL_law 125 = .ok (.invokestatic 60, 3) := by decide +kernel
theorem dL_law_128 : decode cL_law 128 = .ok (.istore 5, 2) := by decide +kernel
theorem dL_law_130 : decode cL_law 130 = .ok (.aload_n 2, 1) := by decide +kernel
theorem dL_law_131 : decode cL_law 131 = .ok (.invokevirtual 65, 3) := by decide +kernel
theorem dL_law_134 : decode cL_law 134 = .ok (.istore 6, 2) := by decide +kernel
theorem dL_law_136 : decode cL_law 136 = .ok (.aload_n 2, 1) := by decide +kernel
theorem dL_law_137 : decode cL_law 137 = .ok (.invokevirtual 66, 3) := by decide +kernel
theorem dL_law_140 : decode cL_law 140 = .ok (.iload 5, 2) := by decide +kernel
theorem dL_law_142 : decode cL_law 142 = .ok (.if_icmp .eq 5, 3) := by decide +kernel
theorem dL_law_145 : decode cL_law 145 = .ok (.iconst 0, 1) := by decide +kernel
theorem dL_law_146 : decode cL_law 146 = .ok (.ireturn, 1) := by decide +kernel
theorem dL_law_147 : decode cL_law 147 = .ok (.iload 5, 2) := by decide +kernel
theorem dL_law_149 : decode cL_law 149 = .ok (.ifCond .ne 15, 3) := by decide +kernel
theorem dL_law_152 : decode cL_law 152 = .ok (.aload_n 3, 1) := by decide +kernel
theorem dL_law_153 : decode cL_law 153 = .ok (.iconst 0, 1) := by decide +kernel
theorem dL_law_154 : decode cL_law 154 = .ok (.laload, 1) := by decide +kernel
theorem dL_law_155 : decode cL_law 155 = .ok (.iload 6, 2) := by decide +kernel
theorem dL_law_157 : decode cL_law 157 = .ok (.i2l, 1) := by decide +kernel
theorem dL_law_158 : decode cL_law 158 = .ok (.lcmp, 1) := by decide +kernel
theorem dL_law_159 : decode cL_law 159 = .ok (.ifCond .eq 5, 3) := by decide +kernel
theorem dL_law_162 : decode cL_law 162 = .ok (.iconst 0, 1) := by decide +kernel
theorem dL_law_163 : decode cL_law 163 = .ok (.ireturn, 1) := by decide +kernel
theorem dL_law_164 : decode cL_law 164 = .ok (.goto 667, 3) := by decide +kernel
theorem dL_law_167 : decode cL_law 167 = .ok (.aload_n 1, 1) := by decide +kernel
theorem dL_law_168 : decode cL_law 168 = .ok (.aload_n 0, 1) := by decide +kernel
theorem dL_law_169 : decode cL_law 169 = .ok (.iload 4, 2) := by decide +kernel
theorem dL_law_171 : decode cL_law 171 = .ok (.iconst 1, 1) := by decide +kernel
theorem dL_law_172 : decode cL_law 172 = .ok (.iadd, 1) := by decide +kernel
theorem dL_law_173 : decode cL_law 173 = .ok (.iaload, 1) := by decide +kernel
theorem dL_law_174 : decode cL_law 174 = .ok (.aload_n 0, 1) := by decide +kernel
theorem dL_law_175 : decode cL_law 175 = .ok (.iload 4, 2) := by decide +kernel
theorem dL_law_177 : decode cL_law 177 = .ok (.iconst 2, 1) := by decide +kernel
theorem dL_law_178 : decode cL_law 178 = .ok (.iadd, 1) := by decide +kernel
theorem dL_law_179 : decode cL_law 179 = .ok (.iaload, 1) := by decide +kernel
theorem dL_law_180 : decode cL_law 180 = .ok (.aload_n 3, 1) := by decide +kernel
theorem dL_law_181 : decode cL_law 181 = .ok (.invokestatic 69, 3) := by decide +kernel
theorem dL_law_184 : decode cL_law 184 = .ok (.istore 5, 2) := by decide +kernel
theorem dL_law_186 : decode cL_law 186 = .ok (.aload_n 2, 1) := by decide +kernel
theorem dL_law_187 : decode cL_law 187 = .ok (.aload_n 0, 1) := by decide +kernel
theorem dL_law_188 : decode cL_law 188 = .ok (.iload 4, 2) := by decide +kernel
theorem dL_law_190 : decode cL_law 190 = .ok (.iconst 1, 1) := by decide +kernel
theorem dL_law_191 : decode cL_law 191 = .ok (.iadd, 1) := by decide +kernel
theorem dL_law_192 : decode cL_law 192 = .ok (.iaload, 1) := by decide +kernel
theorem dL_law_193 : decode cL_law 193 = .ok (.aload_n 0, 1) := by decide +kernel
theorem dL_law_194 : decode cL_law 194 = .ok (.iload 4, 2) := by decide +kernel
theorem dL_law_196 : decode cL_law 196 = .ok (.iconst 2, 1) := by decide +kernel
theorem dL_law_197 : decode cL_law 197 = .ok (.iadd, 1) := by decide +kernel
theorem dL_law_198 : decode cL_law 198 = .ok (.iaload, 1) := by decide +kernel
theorem dL_law_199 : decode cL_law 199 = .ok (.invokevirtual 72, 3) := by decide +kernel
theorem dL_law_202 : decode cL_law 202 = .ok (.istore 6, 2) := by decide +kernel
theorem dL_law_204 : decode cL_law 204 = .ok (.aload_n 2, 1) := by decide +kernel
theorem dL_law_205 : decode cL_law 205 = .ok (.invokevirtual 66, 3) := by decide +kernel
theorem dL_law_208 : decode cL_law 208 = .ok (.iload 5, 2) := by decide +kernel
theorem dL_law_210 : decode cL_law 210 = .ok (.if_icmp .eq 5, 3) := by decide +kernel
theorem dL_law_213 : decode cL_law 213 = .ok (.iconst 0, 1) := by decide +kernel
theorem dL_law_214 : decode cL_law 214 = .ok (.ireturn, 1) := by decide +kernel
theorem dL_law_215 : decode cL_law 215 = .ok (.iload 5, 2) := by decide +kernel
theorem dL_law_217 : decode cL_law 217 = .ok (.ifCond .ne 15, 3) := by decide +kernel
theorem dL_law_220 : decode cL_law 220 = .ok (.aload_n 3, 1) := by decide +kernel
theorem dL_law_221 : decode cL_law 221 = .ok (.iconst 0, 1) := by decide +kernel
theorem dL_law_222 : decode cL_law 222 = .ok (.laload, 1) := by decide +kernel
theorem dL_law_223 : decode cL_law 223 = .ok (.iload 6, 2) := by decide +kernel
theorem dL_law_225 : decode cL_law 225 = .ok (.i2l, 1) := by decide +kernel
theorem dL_law_226 : decode cL_law 226 = .ok (.lcmp, 1) := by decide +kernel
theorem dL_law_227 : decode cL_law 227 = .ok (.ifCond .eq 5, 3) := by decide +kernel
theorem dL_law_230 : decode cL_law 230 = .ok (.iconst 0, 1) := by decide +kernel
theorem dL_law_231 : decode cL_law 231 = .ok (.ireturn, 1) := by decide +kernel
theorem dL_law_232 : decode cL_law 232 = .ok (.goto 599, 3) := by decide +kernel
theorem dL_law_235 : decode cL_law 235 = .ok (.aload_n 1, 1) := by decide +kernel
theorem dL_law_236 : decode cL_law 236 = .ok (.aload_n 0, 1) := by decide +kernel
theorem dL_law_237 : decode cL_law 237 = .ok (.iload 4, 2) := by decide +kernel
theorem dL_law_239 : decode cL_law 239 = .ok (.iconst 1, 1) := by decide +kernel
theorem dL_law_240 : decode cL_law 240 = .ok (.iadd, 1) := by decide +kernel
theorem dL_law_241 : decode cL_law 241 = .ok (.iaload, 1) := by decide +kernel
theorem dL_law_242 : decode cL_law 242 = .ok (.aload_n 3, 1) := by decide +kernel
theorem dL_law_243 : decode cL_law 243 = .ok (.invokestatic 73, 3) := by decide +kernel
theorem dL_law_246 : decode cL_law 246 = .ok (.istore 5, 2) := by decide +kernel
theorem dL_law_248 : decode cL_law 248 = .ok (.aload_n 2, 1) := by decide +kernel
theorem dL_law_249 : decode cL_law 249 = .ok (.aload_n 0, 1) := by decide +kernel
theorem dL_law_250 : decode cL_law 250 = .ok (.iload 4, 2) := by decide +kernel
theorem dL_law_252 : decode cL_law 252 = .ok (.iconst 1, 1) := by decide +kernel
theorem dL_law_253 : decode cL_law 253 = .ok (.iadd, 1) := by decide +kernel
theorem dL_law_254 : decode cL_law 254 = .ok (.iaload, 1) := by decide +kernel
theorem dL_law_255 : decode cL_law 255 = .ok (.invokevirtual 76, 3) := by decide +kernel
theorem dL_law_258 : decode cL_law 258 = .ok (.istore 6, 2) := by decide +kernel
theorem dL_law_260 : decode cL_law 260 = .ok (.aload_n 2, 1) := by decide +kernel
theorem dL_law_261 : decode cL_law 261 = .ok (.invokevirtual 66, 3) := by decide +kernel
theorem dL_law_264 : decode cL_law 264 = .ok (.iload 5, 2) := by decide +kernel
theorem dL_law_266 : decode cL_law 266 = .ok (.if_icmp .eq 5, 3) := by decide +kernel
theorem dL_law_269 : decode cL_law 269 = .ok (.iconst 0, 1) := by decide +kernel
theorem dL_law_270 : decode cL_law 270 = .ok (.ireturn, 1) := by decide +kernel
theorem dL_law_271 : decode cL_law 271 = .ok (.iload 5, 2) := by decide +kernel
theorem dL_law_273 : decode cL_law 273 = .ok (.ifCond .ne 15, 3) := by decide +kernel
theorem dL_law_276 : decode cL_law 276 = .ok (.aload_n 3, 1) := by decide +kernel
theorem dL_law_277 : decode cL_law 277 = .ok (.iconst 0, 1) := by decide +kernel
theorem dL_law_278 : decode cL_law 278 = .ok (.laload, 1) := by decide +kernel
theorem dL_law_279 : decode cL_law 279 = .ok (.iload 6, 2) := by decide +kernel
theorem dL_law_281 : decode cL_law 281 = .ok (.i2l, 1) := by decide +kernel
theorem dL_law_282 : decode cL_law 282 = .ok (.lcmp, 1) := by decide +kernel
theorem dL_law_283 : decode cL_law 283 = .ok (.ifCond .eq 5, 3) := by decide +kernel
theorem dL_law_286 : decode cL_law 286 = .ok (.iconst 0, 1) := by decide +kernel
theorem dL_law_287 : decode cL_law 287 = .ok (.ireturn, 1) := by decide +kernel
theorem dL_law_288 : decode cL_law 288 = .ok (.goto 543, 3) := by decide +kernel
theorem dL_law_291 : decode cL_law 291 = .ok (.aload_n 1, 1) := by decide +kernel
theorem dL_law_292 : decode cL_law 292 = .ok (.aload_n 3, 1) := by decide +kernel
theorem dL_law_293 : decode cL_law 293 = .ok (.invokestatic 77, 3) := by decide +kernel
theorem dL_law_296 : decode cL_law 296 = .ok (.istore 5, 2) := by decide +kernel
theorem dL_law_298 : decode cL_law 298 = .ok (.aload_n 2, 1) := by decide +kernel
theorem dL_law_299 : decode cL_law 299 = .ok (.invokevirtual 79, 3) := by decide +kernel
theorem dL_law_302 : decode cL_law 302 = .ok (.istore 6, 2) := by decide +kernel
theorem dL_law_304 : decode cL_law 304 = .ok (.aload_n 2, 1) := by decide +kernel
theorem dL_law_305 : decode cL_law 305 = .ok (.invokevirtual 66, 3) := by decide +kernel
theorem dL_law_308 : decode cL_law 308 = .ok (.iload 5, 2) := by decide +kernel
theorem dL_law_310 : decode cL_law 310 = .ok (.if_icmp .eq 5, 3) := by decide +kernel
theorem dL_law_313 : decode cL_law 313 = .ok (.iconst 0, 1) := by decide +kernel
theorem dL_law_314 : decode cL_law 314 = .ok (.ireturn, 1) := by decide +kernel
theorem dL_law_315 : decode cL_law 315 = .ok (.iload 5, 2) := by decide +kernel
theorem dL_law_317 : decode cL_law 317 = .ok (.ifCond .ne 15, 3) := by decide +kernel
theorem dL_law_320 : decode cL_law 320 = .ok (.aload_n 3, 1) := by decide +kernel
theorem dL_law_321 : decode cL_law 321 = .ok (.iconst 0, 1) := by decide +kernel
theorem dL_law_322 : decode cL_law 322 = .ok (.laload, 1) := by decide +kernel
theorem dL_law_323 : decode cL_law 323 = .ok (.iload 6, 2) := by decide +kernel
theorem dL_law_325 : decode cL_law 325 = .ok (.i2l, 1) := by decide +kernel
theorem dL_law_326 : decode cL_law 326 = .ok (.lcmp, 1) := by decide +kernel
theorem dL_law_327 : decode cL_law 327 = .ok (.ifCond .eq 5, 3) := by decide +kernel
theorem dL_law_330 : decode cL_law 330 = .ok (.iconst 0, 1) := by decide +kernel
theorem dL_law_331 : decode cL_law 331 = .ok (.ireturn, 1) := by decide +kernel
theorem dL_law_332 : decode cL_law 332 = .ok (.goto 499, 3) := by decide +kernel
theorem dL_law_335 : decode cL_law 335 = .ok (.aload_n 1, 1) := by decide +kernel
theorem dL_law_336 : decode cL_law 336 = .ok (.aload_n 3, 1) := by decide +kernel
theorem dL_law_337 : decode cL_law 337 = .ok (.invokestatic 80, 3) := by decide +kernel
theorem dL_law_340 : decode cL_law 340 = .ok (.istore 5, 2) := by decide +kernel
theorem dL_law_342 : decode cL_law 342 = .ok (.aload_n 2, 1) := by decide +kernel
theorem dL_law_343 : decode cL_law 343 = .ok (.invokevirtual 82, 3) := by decide +kernel
theorem dL_law_346 : decode cL_law 346 = .ok (.istore 6, 2) := by decide +kernel
theorem dL_law_348 : decode cL_law 348 = .ok (.aload_n 2, 1) := by decide +kernel
theorem dL_law_349 : decode cL_law 349 = .ok (.invokevirtual 66, 3) := by decide +kernel
theorem dL_law_352 : decode cL_law 352 = .ok (.iload 5, 2) := by decide +kernel
theorem dL_law_354 : decode cL_law 354 = .ok (.if_icmp .eq 5, 3) := by decide +kernel
theorem dL_law_357 : decode cL_law 357 = .ok (.iconst 0, 1) := by decide +kernel
theorem dL_law_358 : decode cL_law 358 = .ok (.ireturn, 1) := by decide +kernel
theorem dL_law_359 : decode cL_law 359 = .ok (.iload 5, 2) := by decide +kernel
theorem dL_law_361 : decode cL_law 361 = .ok (.ifCond .ne 15, 3) := by decide +kernel
theorem dL_law_364 : decode cL_law 364 = .ok (.aload_n 3, 1) := by decide +kernel
theorem dL_law_365 : decode cL_law 365 = .ok (.iconst 0, 1) := by decide +kernel
theorem dL_law_366 : decode cL_law 366 = .ok (.laload, 1) := by decide +kernel
theorem dL_law_367 : decode cL_law 367 = .ok (.iload 6, 2) := by decide +kernel
theorem dL_law_369 : decode cL_law 369 = .ok (.i2l, 1) := by decide +kernel
theorem dL_law_370 : decode cL_law 370 = .ok (.lcmp, 1) := by decide +kernel
theorem dL_law_371 : decode cL_law 371 = .ok (.ifCond .eq 5, 3) := by decide +kernel
theorem dL_law_374 : decode cL_law 374 = .ok (.iconst 0, 1) := by decide +kernel
theorem dL_law_375 : decode cL_law 375 = .ok (.ireturn, 1) := by decide +kernel
theorem dL_law_376 : decode cL_law 376 = .ok (.goto 455, 3) := by decide +kernel
theorem dL_law_379 : decode cL_law 379 = .ok (.aload_n 1, 1) := by decide +kernel
theorem dL_law_380 : decode cL_law 380 = .ok (.aload_n 0, 1) := by decide +kernel
theorem dL_law_381 : decode cL_law 381 = .ok (.iload 4, 2) := by decide +kernel
theorem dL_law_383 : decode cL_law 383 = .ok (.iconst 1, 1) := by decide +kernel
theorem dL_law_384 : decode cL_law 384 = .ok (.iadd, 1) := by decide +kernel
theorem dL_law_385 : decode cL_law 385 = .ok (.iaload, 1) := by decide +kernel
theorem dL_law_386 : decode cL_law 386 = .ok (.aload_n 3, 1) := by decide +kernel
theorem dL_law_387 : decode cL_law 387 = .ok (.invokestatic 83, 3) := by decide +kernel
theorem dL_law_390 : decode cL_law 390 = .ok (.istore 5, 2) := by decide +kernel
theorem dL_law_392 : decode cL_law 392 = .ok (.aload_n 2, 1) := by decide +kernel
theorem dL_law_393 : decode cL_law 393 = .ok (.aload_n 0, 1) := by decide +kernel
theorem dL_law_394 : decode cL_law 394 = .ok (.iload 4, 2) := by decide +kernel
theorem dL_law_396 : decode cL_law 396 = .ok (.iconst 1, 1) := by decide +kernel
theorem dL_law_397 : decode cL_law 397 = .ok (.iadd, 1) := by decide +kernel
theorem dL_law_398 : decode cL_law 398 = .ok (.iaload, 1) := by decide +kernel
theorem dL_law_399 : decode cL_law 399 = .ok (.invokevirtual 85, 3) := by decide +kernel
theorem dL_law_402 : decode cL_law 402 = .ok (.istore 6, 2) := by decide +kernel
theorem dL_law_404 : decode cL_law 404 = .ok (.aload_n 2, 1) := by decide +kernel
theorem dL_law_405 : decode cL_law 405 = .ok (.invokevirtual 66, 3) := by decide +kernel
theorem dL_law_408 : decode cL_law 408 = .ok (.iload 5, 2) := by decide +kernel
theorem dL_law_410 : decode cL_law 410 = .ok (.if_icmp .eq 5, 3) := by decide +kernel
theorem dL_law_413 : decode cL_law 413 = .ok (.iconst 0, 1) := by decide +kernel
theorem dL_law_414 : decode cL_law 414 = .ok (.ireturn, 1) := by decide +kernel
theorem dL_law_415 : decode cL_law 415 = .ok (.iload 5, 2) := by decide +kernel
theorem dL_law_417 : decode cL_law 417 = .ok (.ifCond .ne 15, 3) := by decide +kernel
theorem dL_law_420 : decode cL_law 420 = .ok (.aload_n 3, 1) := by decide +kernel
theorem dL_law_421 : decode cL_law 421 = .ok (.iconst 0, 1) := by decide +kernel
theorem dL_law_422 : decode cL_law 422 = .ok (.laload, 1) := by decide +kernel
theorem dL_law_423 : decode cL_law 423 = .ok (.iload 6, 2) := by decide +kernel
theorem dL_law_425 : decode cL_law 425 = .ok (.i2l, 1) := by decide +kernel
theorem dL_law_426 : decode cL_law 426 = .ok (.lcmp, 1) := by decide +kernel
theorem dL_law_427 : decode cL_law 427 = .ok (.ifCond .eq 5, 3) := by decide +kernel
theorem dL_law_430 : decode cL_law 430 = .ok (.iconst 0, 1) := by decide +kernel
theorem dL_law_431 : decode cL_law 431 = .ok (.ireturn, 1) := by decide +kernel
theorem dL_law_432 : decode cL_law 432 = .ok (.goto 399, 3) := by decide +kernel
theorem dL_law_435 : decode cL_law 435 = .ok (.aload_n 1, 1) := by decide +kernel
theorem dL_law_436 : decode cL_law 436 = .ok (.aload_n 0, 1) := by decide +kernel
theorem dL_law_437 : decode cL_law 437 = .ok (.iload 4, 2) := by decide +kernel
theorem dL_law_439 : decode cL_law 439 = .ok (.iconst 1, 1) := by decide +kernel
theorem dL_law_440 : decode cL_law 440 = .ok (.iadd, 1) := by decide +kernel
theorem dL_law_441 : decode cL_law 441 = .ok (.iaload, 1) := by decide +kernel
theorem dL_law_442 : decode cL_law 442 = .ok (.aload_n 3, 1) := by decide +kernel
theorem dL_law_443 : decode cL_law 443 = .ok (.invokestatic 86, 3) := by decide +kernel
theorem dL_law_446 : decode cL_law 446 = .ok (.istore 5, 2) := by decide +kernel
theorem dL_law_448 : decode cL_law 448 = .ok (.aload_n 2, 1) := by decide +kernel
theorem dL_law_449 : decode cL_law 449 = .ok (.aload_n 0, 1) := by decide +kernel
theorem dL_law_450 : decode cL_law 450 = .ok (.iload 4, 2) := by decide +kernel
theorem dL_law_452 : decode cL_law 452 = .ok (.iconst 1, 1) := by decide +kernel
theorem dL_law_453 : decode cL_law 453 = .ok (.iadd, 1) := by decide +kernel
theorem dL_law_454 : decode cL_law 454 = .ok (.iaload, 1) := by decide +kernel
theorem dL_law_455 : decode cL_law 455 = .ok (.invokevirtual 88, 3) := by decide +kernel
theorem dL_law_458 : decode cL_law 458 = .ok (.istore 6, 2) := by decide +kernel
theorem dL_law_460 : decode cL_law 460 = .ok (.aload_n 2, 1) := by decide +kernel
theorem dL_law_461 : decode cL_law 461 = .ok (.invokevirtual 66, 3) := by decide +kernel
theorem dL_law_464 : decode cL_law 464 = .ok (.iload 5, 2) := by decide +kernel
theorem dL_law_466 : decode cL_law 466 = .ok (.if_icmp .eq 5, 3) := by decide +kernel
theorem dL_law_469 : decode cL_law 469 = .ok (.iconst 0, 1) := by decide +kernel
theorem dL_law_470 : decode cL_law 470 = .ok (.ireturn, 1) := by decide +kernel
theorem dL_law_471 : decode cL_law 471 = .ok (.iload 5, 2) := by decide +kernel
theorem dL_law_473 : decode cL_law 473 = .ok (.ifCond .ne 15, 3) := by decide +kernel
theorem dL_law_476 : decode cL_law 476 = .ok (.aload_n 3, 1) := by decide +kernel
theorem dL_law_477 : decode cL_law 477 = .ok (.iconst 0, 1) := by decide +kernel
theorem dL_law_478 : decode cL_law 478 = .ok (.laload, 1) := by decide +kernel
theorem dL_law_479 : decode cL_law 479 = .ok (.iload 6, 2) := by decide +kernel
theorem dL_law_481 : decode cL_law 481 = .ok (.i2l, 1) := by decide +kernel
theorem dL_law_482 : decode cL_law 482 = .ok (.lcmp, 1) := by decide +kernel
theorem dL_law_483 : decode cL_law 483 = .ok (.ifCond .eq 5, 3) := by decide +kernel
theorem dL_law_486 : decode cL_law 486 = .ok (.iconst 0, 1) := by decide +kernel
theorem dL_law_487 : decode cL_law 487 = .ok (.ireturn, 1) := by decide +kernel
theorem dL_law_488 : decode cL_law 488 = .ok (.goto 343, 3) := by decide +kernel
theorem dL_law_491 : decode cL_law 491 = .ok (.aload_n 1, 1) := by decide +kernel
theorem dL_law_492 : decode cL_law 492 = .ok (.aload_n 0, 1) := by decide +kernel
theorem dL_law_493 : decode cL_law 493 = .ok (.iload 4, 2) := by decide +kernel
theorem dL_law_495 : decode cL_law 495 = .ok (.iconst 1, 1) := by decide +kernel
theorem dL_law_496 : decode cL_law 496 = .ok (.iadd, 1) := by decide +kernel
theorem dL_law_497 : decode cL_law 497 = .ok (.iaload, 1) := by decide +kernel
theorem dL_law_498 : decode cL_law 498 = .ok (.aload_n 3, 1) := by decide +kernel
theorem dL_law_499 : decode cL_law 499 = .ok (.invokestatic 89, 3) := by decide +kernel
theorem dL_law_502 : decode cL_law 502 = .ok (.istore 5, 2) := by decide +kernel
theorem dL_law_504 : decode cL_law 504 = .ok (.aload_n 2, 1) := by decide +kernel
theorem dL_law_505 : decode cL_law 505 = .ok (.aload_n 0, 1) := by decide +kernel
theorem dL_law_506 : decode cL_law 506 = .ok (.iload 4, 2) := by decide +kernel
theorem dL_law_508 : decode cL_law 508 = .ok (.iconst 1, 1) := by decide +kernel
theorem dL_law_509 : decode cL_law 509 = .ok (.iadd, 1) := by decide +kernel
theorem dL_law_510 : decode cL_law 510 = .ok (.iaload, 1) := by decide +kernel
theorem dL_law_511 : decode cL_law 511 = .ok (.invokevirtual 91, 3) := by decide +kernel
theorem dL_law_514 : decode cL_law 514 = .ok (.istore 6, 2) := by decide +kernel
theorem dL_law_516 : decode cL_law 516 = .ok (.aload_n 2, 1) := by decide +kernel
theorem dL_law_517 : decode cL_law 517 = .ok (.invokevirtual 66, 3) := by decide +kernel
theorem dL_law_520 : decode cL_law 520 = .ok (.iload 5, 2) := by decide +kernel
theorem dL_law_522 : decode cL_law 522 = .ok (.if_icmp .eq 5, 3) := by decide +kernel
theorem dL_law_525 : decode cL_law 525 = .ok (.iconst 0, 1) := by decide +kernel
theorem dL_law_526 : decode cL_law 526 = .ok (.ireturn, 1) := by decide +kernel
theorem dL_law_527 : decode cL_law 527 = .ok (.iload 5, 2) := by decide +kernel
theorem dL_law_529 : decode cL_law 529 = .ok (.ifCond .ne 15, 3) := by decide +kernel
theorem dL_law_532 : decode cL_law 532 = .ok (.aload_n 3, 1) := by decide +kernel
theorem dL_law_533 : decode cL_law 533 = .ok (.iconst 0, 1) := by decide +kernel
theorem dL_law_534 : decode cL_law 534 = .ok (.laload, 1) := by decide +kernel
theorem dL_law_535 : decode cL_law 535 = .ok (.iload 6, 2) := by decide +kernel
theorem dL_law_537 : decode cL_law 537 = .ok (.i2l, 1) := by decide +kernel
theorem dL_law_538 : decode cL_law 538 = .ok (.lcmp, 1) := by decide +kernel
theorem dL_law_539 : decode cL_law 539 = .ok (.ifCond .eq 5, 3) := by decide +kernel
theorem dL_law_542 : decode cL_law 542 = .ok (.iconst 0, 1) := by decide +kernel
theorem dL_law_543 : decode cL_law 543 = .ok (.ireturn, 1) := by decide +kernel
theorem dL_law_544 : decode cL_law 544 = .ok (.goto 287, 3) := by decide +kernel
theorem dL_law_547 : decode cL_law 547 = .ok (.aload_n 1, 1) := by decide +kernel
theorem dL_law_548 : decode cL_law 548 = .ok (.aload_n 0, 1) := by decide +kernel
theorem dL_law_549 : decode cL_law 549 = .ok (.iload 4, 2) := by decide +kernel
theorem dL_law_551 : decode cL_law 551 = .ok (.iconst 1, 1) := by decide +kernel
theorem dL_law_552 : decode cL_law 552 = .ok (.iadd, 1) := by decide +kernel
theorem dL_law_553 : decode cL_law 553 = .ok (.iaload, 1) := by decide +kernel
theorem dL_law_554 : decode cL_law 554 = .ok (.invokevirtual 92, 3) := by decide +kernel
theorem dL_law_557 : decode cL_law 557 = .ok (.aload_n 2, 1) := by decide +kernel
theorem dL_law_558 : decode cL_law 558 = .ok (.aload_n 0, 1) := by decide +kernel
theorem dL_law_559 : decode cL_law 559 = .ok (.iload 4, 2) := by decide +kernel
theorem dL_law_561 : decode cL_law 561 = .ok (.iconst 1, 1) := by decide +kernel
theorem dL_law_562 : decode cL_law 562 = .ok (.iadd, 1) := by decide +kernel
theorem dL_law_563 : decode cL_law 563 = .ok (.iaload, 1) := by decide +kernel
theorem dL_law_564 : decode cL_law 564 = .ok (.invokevirtual 96, 3) := by decide +kernel
theorem dL_law_567 : decode cL_law 567 = .ok (.goto 264, 3) := by decide +kernel
theorem dL_law_570 : decode cL_law 570 = .ok (.aload_n 1, 1) := by decide +kernel
theorem dL_law_571 : decode cL_law 571 = .ok (.invokevirtual 97, 3) := by decide +kernel
theorem dL_law_574 : decode cL_law 574 = .ok (.aload_n 2, 1) := by decide +kernel
theorem dL_law_575 : decode cL_law 575 = .ok (.invokevirtual 100, 3) := by decide +kernel
theorem dL_law_578 : decode cL_law 578 = .ok (.if_icmp .eq 253, 3) := by decide +kernel
theorem dL_law_581 : decode cL_law 581 = .ok (.iconst 0, 1) := by decide +kernel
theorem dL_law_582 : decode cL_law 582 = .ok (.ireturn, 1) := by decide +kernel
theorem dL_law_583 : decode cL_law 583 = .ok (.aload_n 1, 1) := by decide +kernel
theorem dL_law_584 : decode cL_law 584 = .ok (.aload_n 0, 1) := by decide +kernel
theorem dL_law_585 : decode cL_law 585 = .ok (.iload 4, 2) := by decide +kernel
theorem dL_law_587 : decode cL_law 587 = .ok (.iconst 1, 1) := by decide +kernel
theorem dL_law_588 : decode cL_law 588 = .ok (.iadd, 1) := by decide +kernel
theorem dL_law_589 : decode cL_law 589 = .ok (.iaload, 1) := by decide +kernel
theorem dL_law_590 : decode cL_law 590 = .ok (.aload_n 3, 1) := by decide +kernel
theorem dL_law_591 : decode cL_law 591 = .ok (.invokestatic 101, 3) := by decide +kernel
theorem dL_law_594 : decode cL_law 594 = .ok (.istore 5, 2) := by decide +kernel
theorem dL_law_596 : decode cL_law 596 = .ok (.aload_n 2, 1) := by decide +kernel
theorem dL_law_597 : decode cL_law 597 = .ok (.aload_n 0, 1) := by decide +kernel
theorem dL_law_598 : decode cL_law 598 = .ok (.iload 4, 2) := by decide +kernel
theorem dL_law_600 : decode cL_law 600 = .ok (.iconst 1, 1) := by decide +kernel
theorem dL_law_601 : decode cL_law 601 = .ok (.iadd, 1) := by decide +kernel
theorem dL_law_602 : decode cL_law 602 = .ok (.iaload, 1) := by decide +kernel
theorem dL_law_603 : decode cL_law 603 = .ok (.invokevirtual 103, 3) := by decide +kernel
theorem dL_law_606 : decode cL_law 606 = .ok (.istore 6, 2) := by decide +kernel
theorem dL_law_608 : decode cL_law 608 = .ok (.aload_n 2, 1) := by decide +kernel
theorem dL_law_609 : decode cL_law 609 = .ok (.invokevirtual 66, 3) := by decide +kernel
theorem dL_law_612 : decode cL_law 612 = .ok (.iload 5, 2) := by decide +kernel
theorem dL_law_614 : decode cL_law 614 = .ok (.if_icmp .eq 5, 3) := by decide +kernel
theorem dL_law_617 : decode cL_law 617 = .ok (.iconst 0, 1) := by decide +kernel
theorem dL_law_618 : decode cL_law 618 = .ok (.ireturn, 1) := by decide +kernel
theorem dL_law_619 : decode cL_law 619 = .ok (.iload 5, 2) := by decide +kernel
theorem dL_law_621 : decode cL_law 621 = .ok (.ifCond .ne 15, 3) := by decide +kernel
theorem dL_law_624 : decode cL_law 624 = .ok (.aload_n 3, 1) := by decide +kernel
theorem dL_law_625 : decode cL_law 625 = .ok (.iconst 0, 1) := by decide +kernel
theorem dL_law_626 : decode cL_law 626 = .ok (.laload, 1) := by decide +kernel
theorem dL_law_627 : decode cL_law 627 = .ok (.iload 6, 2) := by decide +kernel
theorem dL_law_629 : decode cL_law 629 = .ok (.i2l, 1) := by decide +kernel
theorem dL_law_630 : decode cL_law 630 = .ok (.lcmp, 1) := by decide +kernel
theorem dL_law_631 : decode cL_law 631 = .ok (.ifCond .eq 5, 3) := by decide +kernel
theorem dL_law_634 : decode cL_law 634 = .ok (.iconst 0, 1) := by decide +kernel
theorem dL_law_635 : decode cL_law 635 = .ok (.ireturn, 1) := by decide +kernel
theorem dL_law_636 : decode cL_law 636 = .ok (.goto 195, 3) := by decide +kernel
theorem dL_law_639 : decode cL_law 639 = .ok (.aload_n 1, 1) := by decide +kernel
theorem dL_law_640 : decode cL_law 640 = .ok (.aload_n 0, 1) := by decide +kernel
theorem dL_law_641 : decode cL_law 641 = .ok (.iload 4, 2) := by decide +kernel
theorem dL_law_643 : decode cL_law 643 = .ok (.iconst 1, 1) := by decide +kernel
theorem dL_law_644 : decode cL_law 644 = .ok (.iadd, 1) := by decide +kernel
theorem dL_law_645 : decode cL_law 645 = .ok (.iaload, 1) := by decide +kernel
theorem dL_law_646 : decode cL_law 646 = .ok (.aload_n 0, 1) := by decide +kernel
theorem dL_law_647 : decode cL_law 647 = .ok (.iload 4, 2) := by decide +kernel
theorem dL_law_649 : decode cL_law 649 = .ok (.iconst 2, 1) := by decide +kernel
theorem dL_law_650 : decode cL_law 650 = .ok (.iadd, 1) := by decide +kernel
theorem dL_law_651 : decode cL_law 651 = .ok (.iaload, 1) := by decide +kernel
theorem dL_law_652 : decode cL_law 652 = .ok (.aload_n 3, 1) := by decide +kernel
theorem dL_law_653 : decode cL_law 653 = .ok (.invokestatic 104, 3) := by decide +kernel
theorem dL_law_656 : decode cL_law 656 = .ok (.istore 5, 2) := by decide +kernel
theorem dL_law_658 : decode cL_law 658 = .ok (.aload_n 2, 1) := by decide +kernel
theorem dL_law_659 : decode cL_law 659 = .ok (.aload_n 0, 1) := by decide +kernel
theorem dL_law_660 : decode cL_law 660 = .ok (.iload 4, 2) := by decide +kernel
theorem dL_law_662 : decode cL_law 662 = .ok (.iconst 1, 1) := by decide +kernel
theorem dL_law_663 : decode cL_law 663 = .ok (.iadd, 1) := by decide +kernel
theorem dL_law_664 : decode cL_law 664 = .ok (.iaload, 1) := by decide +kernel
theorem dL_law_665 : decode cL_law 665 = .ok (.aload_n 0, 1) := by decide +kernel
theorem dL_law_666 : decode cL_law 666 = .ok (.iload 4, 2) := by decide +kernel
theorem dL_law_668 : decode cL_law 668 = .ok (.iconst 2, 1) := by decide +kernel
theorem dL_law_669 : decode cL_law 669 = .ok (.iadd, 1) := by decide +kernel
theorem dL_law_670 : decode cL_law 670 = .ok (.iaload, 1) := by decide +kernel
theorem dL_law_671 : decode cL_law 671 = .ok (.invokevirtual 106, 3) := by decide +kernel
theorem dL_law_674 : decode cL_law 674 = .ok (.istore 6, 2) := by decide +kernel
theorem dL_law_676 : decode cL_law 676 = .ok (.aload_n 2, 1) := by decide +kernel
theorem dL_law_677 : decode cL_law 677 = .ok (.invokevirtual 66, 3) := by decide +kernel
theorem dL_law_680 : decode cL_law 680 = .ok (.iload 5, 2) := by decide +kernel
theorem dL_law_682 : decode cL_law 682 = .ok (.if_icmp .eq 5, 3) := by decide +kernel
theorem dL_law_685 : decode cL_law 685 = .ok (.iconst 0, 1) := by decide +kernel
theorem dL_law_686 : decode cL_law 686 = .ok (.ireturn, 1) := by decide +kernel
theorem dL_law_687 : decode cL_law 687 = .ok (.iload 5, 2) := by decide +kernel
theorem dL_law_689 : decode cL_law 689 = .ok (.ifCond .ne 15, 3) := by decide +kernel
theorem dL_law_692 : decode cL_law 692 = .ok (.aload_n 3, 1) := by decide +kernel
theorem dL_law_693 : decode cL_law 693 = .ok (.iconst 0, 1) := by decide +kernel
theorem dL_law_694 : decode cL_law 694 = .ok (.laload, 1) := by decide +kernel
theorem dL_law_695 : decode cL_law 695 = .ok (.iload 6, 2) := by decide +kernel
theorem dL_law_697 : decode cL_law 697 = .ok (.i2l, 1) := by decide +kernel
theorem dL_law_698 : decode cL_law 698 = .ok (.lcmp, 1) := by decide +kernel
theorem dL_law_699 : decode cL_law 699 = .ok (.ifCond .eq 5, 3) := by decide +kernel
theorem dL_law_702 : decode cL_law 702 = .ok (.iconst 0, 1) := by decide +kernel
theorem dL_law_703 : decode cL_law 703 = .ok (.ireturn, 1) := by decide +kernel
theorem dL_law_704 : decode cL_law 704 = .ok (.goto 127, 3) := by decide +kernel
theorem dL_law_707 : decode cL_law 707 = .ok (.aload_n 1, 1) := by decide +kernel
theorem dL_law_708 : decode cL_law 708 = .ok (.aload_n 0, 1) := by decide +kernel
theorem dL_law_709 : decode cL_law 709 = .ok (.iload 4, 2) := by decide +kernel
theorem dL_law_711 : decode cL_law 711 = .ok (.iconst 1, 1) := by decide +kernel
theorem dL_law_712 : decode cL_law 712 = .ok (.iadd, 1) := by decide +kernel
theorem dL_law_713 : decode cL_law 713 = .ok (.iaload, 1) := by decide +kernel
theorem dL_law_714 : decode cL_law 714 = .ok (.aload_n 0, 1) := by decide +kernel
theorem dL_law_715 : decode cL_law 715 = .ok (.iload 4, 2) := by decide +kernel
theorem dL_law_717 : decode cL_law 717 = .ok (.iconst 2, 1) := by decide +kernel
theorem dL_law_718 : decode cL_law 718 = .ok (.iadd, 1) := by decide +kernel
theorem dL_law_719 : decode cL_law 719 = .ok (.iaload, 1) := by decide +kernel
theorem dL_law_720 : decode cL_law 720 = .ok (.aload_n 3, 1) := by decide +kernel
theorem dL_law_721 : decode cL_law 721 = .ok (.invokestatic 107, 3) := by decide +kernel
theorem dL_law_724 : decode cL_law 724 = .ok (.istore 5, 2) := by decide +kernel
theorem dL_law_726 : decode cL_law 726 = .ok (.aload_n 2, 1) := by decide +kernel
theorem dL_law_727 : decode cL_law 727 = .ok (.aload_n 0, 1) := by decide +kernel
theorem dL_law_728 : decode cL_law 728 = .ok (.iload 4, 2) := by decide +kernel
theorem dL_law_730 : decode cL_law 730 = .ok (.iconst 1, 1) := by decide +kernel
theorem dL_law_731 : decode cL_law 731 = .ok (.iadd, 1) := by decide +kernel
theorem dL_law_732 : decode cL_law 732 = .ok (.iaload, 1) := by decide +kernel
theorem dL_law_733 : decode cL_law 733 = .ok (.aload_n 0, 1) := by decide +kernel
theorem dL_law_734 : decode cL_law 734 = .ok (.iload 4, 2) := by decide +kernel
theorem dL_law_736 : decode cL_law 736 = .ok (.iconst 2, 1) := by decide +kernel
theorem dL_law_737 : decode cL_law 737 = .ok (.iadd, 1) := by decide +kernel
theorem dL_law_738 : decode cL_law 738 = .ok (.iaload, 1) := by decide +kernel
theorem dL_law_739 : decode cL_law 739 = .ok (.invokevirtual 109, 3) := by decide +kernel
theorem dL_law_742 : decode cL_law 742 = .ok (.istore 6, 2) := by decide +kernel
theorem dL_law_744 : decode cL_law 744 = .ok (.aload_n 2, 1) := by decide +kernel
theorem dL_law_745 : decode cL_law 745 = .ok (.invokevirtual 66, 3) := by decide +kernel
theorem dL_law_748 : decode cL_law 748 = .ok (.iload 5, 2) := by decide +kernel
theorem dL_law_750 : decode cL_law 750 = .ok (.if_icmp .eq 5, 3) := by decide +kernel
theorem dL_law_753 : decode cL_law 753 = .ok (.iconst 0, 1) := by decide +kernel
theorem dL_law_754 : decode cL_law 754 = .ok (.ireturn, 1) := by decide +kernel
theorem dL_law_755 : decode cL_law 755 = .ok (.iload 5, 2) := by decide +kernel
theorem dL_law_757 : decode cL_law 757 = .ok (.ifCond .ne 15, 3) := by decide +kernel
theorem dL_law_760 : decode cL_law 760 = .ok (.aload_n 3, 1) := by decide +kernel
theorem dL_law_761 : decode cL_law 761 = .ok (.iconst 0, 1) := by decide +kernel
theorem dL_law_762 : decode cL_law 762 = .ok (.laload, 1) := by decide +kernel
theorem dL_law_763 : decode cL_law 763 = .ok (.iload 6, 2) := by decide +kernel
theorem dL_law_765 : decode cL_law 765 = .ok (.i2l, 1) := by decide +kernel
theorem dL_law_766 : decode cL_law 766 = .ok (.lcmp, 1) := by decide +kernel
theorem dL_law_767 : decode cL_law 767 = .ok (.ifCond .eq 5, 3) := by decide +kernel
theorem dL_law_770 : decode cL_law 770 = .ok (.iconst 0, 1) := by decide +kernel
theorem dL_law_771 : decode cL_law 771 = .ok (.ireturn, 1) := by decide +kernel
theorem dL_law_772 : decode cL_law 772 = .ok (.goto 59, 3) := by decide +kernel
theorem dL_law_775 : decode cL_law 775 = .ok (.aload_n 1, 1) := by decide +kernel
theorem dL_law_776 : decode cL_law 776 = .ok (.aload_n 0, 1) := by decide +kernel
theorem dL_law_777 : decode cL_law 777 = .ok (.iload 4, 2) := by decide +kernel
theorem dL_law_779 : decode cL_law 779 = .ok (.iconst 1, 1) := by decide +kernel
theorem dL_law_780 : decode cL_law 780 = .ok (.iadd, 1) := by decide +kernel
theorem dL_law_781 : decode cL_law 781 = .ok (.iaload, 1) := by decide +kernel
theorem dL_law_782 : decode cL_law 782 = .ok (.aload_n 3, 1) := by decide +kernel
theorem dL_law_783 : decode cL_law 783 = .ok (.invokestatic 110, 3) := by decide +kernel
theorem dL_law_786 : decode cL_law 786 = .ok (.istore 5, 2) := by decide +kernel
theorem dL_law_788 : decode cL_law 788 = .ok (.aload_n 2, 1) := by decide +kernel
theorem dL_law_789 : decode cL_law 789 = .ok (.aload_n 0, 1) := by decide +kernel
theorem dL_law_790 : decode cL_law 790 = .ok (.iload 4, 2) := by decide +kernel
theorem dL_law_792 : decode cL_law 792 = .ok (.iconst 1, 1) := by decide +kernel
theorem dL_law_793 : decode cL_law 793 = .ok (.iadd, 1) := by decide +kernel
theorem dL_law_794 : decode cL_law 794 = .ok (.iaload, 1) := by decide +kernel
theorem dL_law_795 : decode cL_law 795 = .ok (.invokevirtual 112, 3) := by decide +kernel
theorem dL_law_798 : decode cL_law 798 = .ok (.istore 6, 2) := by decide +kernel
theorem dL_law_800 : decode cL_law 800 = .ok (.aload_n 2, 1) := by decide +kernel
theorem dL_law_801 : decode cL_law 801 = .ok (.invokevirtual 66, 3) := by decide +kernel
theorem dL_law_804 : decode cL_law 804 = .ok (.iload 5, 2) := by decide +kernel
theorem dL_law_806 : decode cL_law 806 = .ok (.if_icmp .eq 5, 3) := by decide +kernel
theorem dL_law_809 : decode cL_law 809 = .ok (.iconst 0, 1) := by decide +kernel
theorem dL_law_810 : decode cL_law 810 = .ok (.ireturn, 1) := by decide +kernel
theorem dL_law_811 : decode cL_law 811 = .ok (.iload 5, 2) := by decide +kernel
theorem dL_law_813 : decode cL_law 813 = .ok (.ifCond .ne 15, 3) := by decide +kernel
theorem dL_law_816 : decode cL_law 816 = .ok (.aload_n 3, 1) := by decide +kernel
theorem dL_law_817 : decode cL_law 817 = .ok (.iconst 0, 1) := by decide +kernel
theorem dL_law_818 : decode cL_law 818 = .ok (.laload, 1) := by decide +kernel
theorem dL_law_819 : decode cL_law 819 = .ok (.iload 6, 2) := by decide +kernel
theorem dL_law_821 : decode cL_law 821 = .ok (.i2l, 1) := by decide +kernel
theorem dL_law_822 : decode cL_law 822 = .ok (.lcmp, 1) := by decide +kernel
theorem dL_law_823 : decode cL_law 823 = .ok (.ifCond .eq 5, 3) := by decide +kernel
theorem dL_law_826 : decode cL_law 826 = .ok (.iconst 0, 1) := by decide +kernel
theorem dL_law_827 : decode cL_law 827 = .ok (.ireturn, 1) := by decide +kernel
theorem dL_law_828 : decode cL_law 828 = .ok (.goto 3, 3) := by decide +kernel
theorem dL_law_831 : decode cL_law 831 = .ok (.iinc 4 3, 3) := by decide +kernel
theorem dL_law_834 : decode cL_law 834 = .ok (.goto (-811), 3) := by decide +kernel
theorem dL_law_837 : decode cL_law 837 = .ok (.iconst 1, 1) := by decide +kernel
theorem dL_law_838 : decode cL_law 838 = .ok (.ireturn, 1) := by decide +kernel
abbrev vwCl : List vw_C := [(RX0, TX0, 12), (RX1, TX1, 11)]
end
section
/-! rows over natural numbers, contracts with exact worlds, calls by such contracts -/
section
variable {p : Program} {l : Launch} {e : Env} {R : Room} {s : State} {m : MethodId} {args : Array Value} {below : List Frame} {meth : Method} {c : Code} {H : Heap} {locs : List Loc} {cells slots : Nat} {Q : State → Prop} {cc : ByteArray} {pc : Nat} {ls : Array Slot} {rest : List Value}
theorem kv_top {v w : Value} (h : v = w) (k : W p l e R s m args below meth c H locs cells slots Q (F0 m pc ls (w :: rest))) : W p l e R s m args below meth c H locs cells slots Q (F0 m pc ls (v :: rest)) := by rw [h]; exact k
theorem kv_lt (hx : p.tables.exec = Jvm.exec) (hb : c.code = cc) {a b : Nat} (ha : a < 2 ^ 31) (hb2 : b < 2 ^ 31) {off : Int} {tgt : Nat} (hdg : decode cc pc = .ok (.if_icmp .lt off, 3)) (ht : (pc : Int) + off = (tgt : Int))
    (kt : a < b → W p l e R s m args below meth c H locs cells slots Q (F0 m tgt ls rest)) (kf : b ≤ a → W p l e R s m args below meth c H locs cells slots Q (F0 m (pc + 3) ls rest)) : W p l e R s m args below meth c H locs cells slots Q (F0 m pc ls (.int (nI b) :: .int (nI a) :: rest)) :=
  lv_icmp_lt hx hb hdg ht (fun h => kt ((nI_ltI ha hb2).mp h)) (fun h => kf (Nat.le_of_not_lt (fun q => h ((nI_ltI ha hb2).mpr q))))
theorem kv_ge (hx : p.tables.exec = Jvm.exec) (hb : c.code = cc) {a b : Nat} (ha : a < 2 ^ 31) (hb2 : b < 2 ^ 31) {off : Int} {tgt : Nat} (hdg : decode cc pc = .ok (.if_icmp .ge off, 3)) (ht : (pc : Int) + off = (tgt : Int))
    (kt : b ≤ a → W p l e R s m args below meth c H locs cells slots Q (F0 m tgt ls rest)) (kf : a < b → W p l e R s m args below meth c H locs cells slots Q (F0 m (pc + 3) ls rest)) : W p l e R s m args below meth c H locs cells slots Q (F0 m pc ls (.int (nI b) :: .int (nI a) :: rest)) :=
  lv_icmp_ge hx hb hdg ht (fun h => kt ((nI_leI hb2 ha).mp h)) (fun h => kf (Nat.lt_of_not_le (fun q => h ((nI_leI hb2 ha).mpr q))))
theorem kv_gt (hx : p.tables.exec = Jvm.exec) (hb : c.code = cc) {a b : Nat} (ha : a < 2 ^ 31) (hb2 : b < 2 ^ 31) {off : Int} {tgt : Nat} (hdg : decode cc pc = .ok (.if_icmp .gt off, 3)) (ht : (pc : Int) + off = (tgt : Int))
    (kt : b < a → W p l e R s m args below meth c H locs cells slots Q (F0 m tgt ls rest)) (kf : a ≤ b → W p l e R s m args below meth c H locs cells slots Q (F0 m (pc + 3) ls rest)) : W p l e R s m args below meth c H locs cells slots Q (F0 m pc ls (.int (nI b) :: .int (nI a) :: rest)) :=
  lv_icmp_gt hx hb hdg ht (fun h => kt ((nI_ltI hb2 ha).mp h)) (fun h => kf (Nat.le_of_not_lt (fun q => h ((nI_ltI hb2 ha).mpr q))))
theorem kv_le (hx : p.tables.exec = Jvm.exec) (hb : c.code = cc) {a b : Nat} (ha : a < 2 ^ 31) (hb2 : b < 2 ^ 31) {off : Int} {tgt : Nat} (hdg : decode cc pc = .ok (.if_icmp .le off, 3)) (ht : (pc : Int) + off = (tgt : Int))
    (kt : a ≤ b → W p l e R s m args below meth c H locs cells slots Q (F0 m tgt ls rest)) (kf : b < a → W p l e R s m args below meth c H locs cells slots Q (F0 m (pc + 3) ls rest)) : W p l e R s m args below meth c H locs cells slots Q (F0 m pc ls (.int (nI b) :: .int (nI a) :: rest)) :=
  lv_icmp_le hx hb hdg ht (fun h => kt ((nI_leI ha hb2).mp h)) (fun h => kf (Nat.lt_of_not_le (fun q => h ((nI_leI ha hb2).mpr q))))
theorem kv_eq (hx : p.tables.exec = Jvm.exec) (hb : c.code = cc) {a b : Nat} (ha : a < 2 ^ 31) (hb2 : b < 2 ^ 31) {off : Int} {tgt : Nat} (hdg : decode cc pc = .ok (.if_icmp .eq off, 3)) (ht : (pc : Int) + off = (tgt : Int))
    (kt : a = b → W p l e R s m args below meth c H locs cells slots Q (F0 m tgt ls rest)) (kf : ¬ a = b → W p l e R s m args below meth c H locs cells slots Q (F0 m (pc + 3) ls rest)) : W p l e R s m args below meth c H locs cells slots Q (F0 m pc ls (.int (nI b) :: .int (nI a) :: rest)) :=
  lv_icmp_eq hx hb hdg ht (fun h => kt ((nI_eq ha hb2).mp h)) (fun h => kf (fun q => h ((nI_eq ha hb2).mpr q)))
theorem kv_ne (hx : p.tables.exec = Jvm.exec) (hb : c.code = cc) {a b : Nat} (ha : a < 2 ^ 31) (hb2 : b < 2 ^ 31) {off : Int} {tgt : Nat} (hdg : decode cc pc = .ok (.if_icmp .ne off, 3)) (ht : (pc : Int) + off = (tgt : Int))
    (kt : ¬ a = b → W p l e R s m args below meth c H locs cells slots Q (F0 m tgt ls rest)) (kf : a = b → W p l e R s m args below meth c H locs cells slots Q (F0 m (pc + 3) ls rest)) : W p l e R s m args below meth c H locs cells slots Q (F0 m pc ls (.int (nI b) :: .int (nI a) :: rest)) :=
  lv_icmp_ne hx hb hdg ht (fun h => kt (fun q => h ((nI_eq ha hb2).mpr q))) (fun h => kf ((nI_eq ha hb2).mp h))
theorem kv_if_eq (hx : p.tables.exec = Jvm.exec) (hb : c.code = cc) {a : Nat} (ha : a < 2 ^ 31) {off : Int} {tgt : Nat} (hdg : decode cc pc = .ok (.ifCond .eq off, 3)) (ht : (pc : Int) + off = (tgt : Int))
    (kt : a = 0 → W p l e R s m args below meth c H locs cells slots Q (F0 m tgt ls rest)) (kf : 0 < a → W p l e R s m args below meth c H locs cells slots Q (F0 m (pc + 3) ls rest)) : W p l e R s m args below meth c H locs cells slots Q (F0 m pc ls (.int (nI a) :: rest)) :=
  lv_if_eq hx hb hdg ht (fun h => kt ((nI_eq ha (by decide)).mp (h.trans nI_0.symm))) (fun h => kf (Nat.pos_of_ne_zero (fun q => h (by rw [q]; exact nI_0))))
theorem kv_if_ne (hx : p.tables.exec = Jvm.exec) (hb : c.code = cc) {a : Nat} (ha : a < 2 ^ 31) {off : Int} {tgt : Nat} (hdg : decode cc pc = .ok (.ifCond .ne off, 3)) (ht : (pc : Int) + off = (tgt : Int))
    (kt : 0 < a → W p l e R s m args below meth c H locs cells slots Q (F0 m tgt ls rest)) (kf : a = 0 → W p l e R s m args below meth c H locs cells slots Q (F0 m (pc + 3) ls rest)) : W p l e R s m args below meth c H locs cells slots Q (F0 m pc ls (.int (nI a) :: rest)) :=
  lv_if_ne hx hb hdg ht (fun h => kt (Nat.pos_of_ne_zero (fun q => h (by rw [q]; exact nI_0)))) (fun h => kf ((nI_eq ha (by decide)).mp (h.trans nI_0.symm)))
theorem kv_if_le (hx : p.tables.exec = Jvm.exec) (hb : c.code = cc) {a : Nat} (ha : a < 2 ^ 31) {off : Int} {tgt : Nat} (hdg : decode cc pc = .ok (.ifCond .le off, 3)) (ht : (pc : Int) + off = (tgt : Int))
    (kt : a = 0 → W p l e R s m args below meth c H locs cells slots Q (F0 m tgt ls rest)) (kf : 0 < a → W p l e R s m args below meth c H locs cells slots Q (F0 m (pc + 3) ls rest)) : W p l e R s m args below meth c H locs cells slots Q (F0 m pc ls (.int (nI a) :: rest)) :=
  lv_if_le hx hb hdg ht (fun h => kt (Nat.eq_zero_of_not_pos (fun q => nI_nle q ha h))) (fun h => kf (Nat.pos_of_ne_zero (fun q => h (by rw [q, nI_0]; decide))))
theorem kv_if_gt (hx : p.tables.exec = Jvm.exec) (hb : c.code = cc) {a : Nat} (ha : a < 2 ^ 31) {off : Int} {tgt : Nat} (hdg : decode cc pc = .ok (.ifCond .gt off, 3)) (ht : (pc : Int) + off = (tgt : Int))
    (kt : 0 < a → W p l e R s m args below meth c H locs cells slots Q (F0 m tgt ls rest)) (kf : a = 0 → W p l e R s m args below meth c H locs cells slots Q (F0 m (pc + 3) ls rest)) : W p l e R s m args below meth c H locs cells slots Q (F0 m pc ls (.int (nI a) :: rest)) :=
  lv_if_gt hx hb hdg ht (fun h => kt (by rw [← nI_0] at h; exact (nI_ltI (by decide) ha).mp h)) (fun h => kf (Nat.eq_zero_of_not_pos (fun q => h (by rw [← nI_0]; exact (nI_ltI (by decide) ha).mpr q))))
theorem kv_if_lt (hx : p.tables.exec = Jvm.exec) (hb : c.code = cc) {a : Nat} (ha : a < 2 ^ 31) {off : Int} {tgt : Nat} (hdg : decode cc pc = .ok (.ifCond .lt off, 3)) (ht : (pc : Int) + off = (tgt : Int))
    (kf : W p l e R s m args below meth c H locs cells slots Q (F0 m (pc + 3) ls rest)) : W p l e R s m args below meth c H locs cells slots Q (F0 m pc ls (.int (nI a) :: rest)) :=
  lv_if_lt hx hb hdg ht (fun h => absurd h (nI_pos ha)) (fun _ => kf)
theorem kv_if_ge (hx : p.tables.exec = Jvm.exec) (hb : c.code = cc) {a : Nat} (ha : a < 2 ^ 31) {off : Int} {tgt : Nat} (hdg : decode cc pc = .ok (.ifCond .ge off, 3)) (ht : (pc : Int) + off = (tgt : Int))
    (kt : W p l e R s m args below meth c H locs cells slots Q (F0 m tgt ls rest)) : W p l e R s m args below meth c H locs cells slots Q (F0 m pc ls (.int (nI a) :: rest)) :=
  lv_if_ge hx hb hdg ht (fun _ => kt) (fun h => absurd (nI_pos' ha) h)
theorem kv_add (hx : p.tables.exec = Jvm.exec) (hb : c.code = cc) {a b : Nat} (hdg : decode cc pc = .ok (.iadd, 1)) (k : W p l e R s m args below meth c H locs cells slots Q (F0 m (pc + 1) ls (.int (nI (a + b)) :: rest))) : W p l e R s m args below meth c H locs cells slots Q (F0 m pc ls (.int (nI b) :: .int (nI a) :: rest)) :=
  lv_iadd hx hb hdg (by rw [nI_add]; exact k)
theorem kv_sub (hx : p.tables.exec = Jvm.exec) (hb : c.code = cc) {a b : Nat} (h : b ≤ a) (hdg : decode cc pc = .ok (.isub, 1)) (k : W p l e R s m args below meth c H locs cells slots Q (F0 m (pc + 1) ls (.int (nI (a - b)) :: rest))) : W p l e R s m args below meth c H locs cells slots Q (F0 m pc ls (.int (nI b) :: .int (nI a) :: rest)) :=
  lv_isub hx hb hdg (by rw [pk_sub h]; exact k)
theorem kv_subE (hx : p.tables.exec = Jvm.exec) (hb : c.code = cc) {a b d : Nat} (h : d + b = a) (hdg : decode cc pc = .ok (.isub, 1)) (k : W p l e R s m args below meth c H locs cells slots Q (F0 m (pc + 1) ls (.int (nI d) :: rest))) : W p l e R s m args below meth c H locs cells slots Q (F0 m pc ls (.int (nI b) :: .int (nI a) :: rest)) := by
  obtain rfl : d = a - b := by omega
  exact lv_isub hx hb hdg (by rw [pk_sub (by omega)]; exact k)
theorem kv_addE (hx : p.tables.exec = Jvm.exec) (hb : c.code = cc) {a b d : Nat} (h : a + b = d) (hdg : decode cc pc = .ok (.iadd, 1)) (k : W p l e R s m args below meth c H locs cells slots Q (F0 m (pc + 1) ls (.int (nI d) :: rest))) : W p l e R s m args below meth c H locs cells slots Q (F0 m pc ls (.int (nI b) :: .int (nI a) :: rest)) := by
  subst h
  exact lv_iadd hx hb hdg (by rw [nI_add]; exact k)
theorem kv_mul (hx : p.tables.exec = Jvm.exec) (hb : c.code = cc) {a b : Nat} (hdg : decode cc pc = .ok (.imul, 1)) (k : W p l e R s m args below meth c H locs cells slots Q (F0 m (pc + 1) ls (.int (nI (a * b)) :: rest))) : W p l e R s m args below meth c H locs cells slots Q (F0 m pc ls (.int (nI b) :: .int (nI a) :: rest)) :=
  lv_imul hx hb hdg (by rw [pk_mul]; exact k)
theorem kv_inc (a k : Nat) {n : Int} (h : Int32.ofInt n = nI k) : nI a + Int32.ofInt n = nI (a + k) := by rw [h, nI_add]
theorem kv_dec (a : Nat) {n : Int} (h : Int32.ofInt n = -1) (h0 : 0 < a) : nI a + Int32.ofInt n = nI (a - 1) := by
  obtain ⟨b, rfl⟩ : ∃ b, a = b + 1 := ⟨a - 1, by omega⟩
  rw [h, pk_m1]; rfl
theorem kv_iald {D : va_G} {cl : List vw_C} {tys : List (ClassId × FieldType)} {ws : va_W} {a : Nat} (hx : p.tables.exec = Jvm.exec) (hb : c.code = cc) (hK : va_K D cl tys s) (hP : va_P D cl ws H) (q0 t0 : Nat) {cA : ClassId} {n t : Nat} {f : Nat → Int32} (ha : ws[q0]? = some (a, .inl (cA, n, .inl f))) (ht : tys[t0]? = some (cA, .int)) (hin : t < n) (hn : n < 2 ^ 31) (hdg : decode cc pc = .ok (.iaload, 1))
    (kk : W p l e R s m args below meth c H locs cells slots Q (F0 m (pc + 1) ls (.int (f t) :: rest))) : W p l e R s m args below meth c H locs cells slots Q (F0 m pc ls (.int (nI t) :: .ref a :: rest)) :=
  va_iald hx hb hK hP q0 t0 ha ht (vp_in_nI hin hn) hdg (by rw [nI_clamp (Nat.lt_trans hin hn)]; exact kk)
theorem kv_iast {D : va_G} {cl : List vw_C} {tys : List (ClassId × FieldType)} {ws : va_W} {a : Nat} {A : Nat → Prop} {H0 : Heap} (hx : p.tables.exec = Jvm.exec) (hb : c.code = cc) (hK : va_K D cl tys s) (hP : va_P D cl ws H) (hD : va_D A ws) (hS : va_S A H0 H locs) (q0 t0 : Nat) {cA : ClassId} {n t : Nat} {f : Nat → Int32} (ha : ws[q0]? = some (a, .inl (cA, n, .inl f))) (ht : tys[t0]? = some (cA, .int)) {x : Int32} (hin : t < n) (hn : n < 2 ^ 31) (hdg : decode cc pc = .ok (.iastore, 1))
    (kk : ∀ (H1 : Heap) (locs1 : List Loc), va_P D cl (ws.set q0 (a, .inl (cA, n, .inl (upd f t x)))) H1 → va_D A (ws.set q0 (a, .inl (cA, n, .inl (upd f t x)))) → va_S A H0 H1 locs1 → W p l e R s m args below meth c H1 locs1 cells slots Q (F0 m (pc + 1) ls rest)) : W p l e R s m args below meth c H locs cells slots Q (F0 m pc ls (.int x :: .int (nI t) :: .ref a :: rest)) :=
  va_iast hx hb hK hP hD hS q0 t0 ha ht (vp_in_nI hin hn) hdg (by rw [nI_clamp (Nat.lt_trans hin hn)]; exact kk)
end
/-! contracts: from the world X to the world X2, with one answer -/
abbrev kPc (dC : Nat → ClassId) (dI : Nat → Nat → Nat) (tys : List (ClassId × FieldType)) (X : va_W) (sz : Nat) (av : List Value) : Array Value → State → Prop := va_Pc av (fun U => U.heap.size = sz ∧ va_P (dC, dI) vwCl X U.heap ∧ va_K (dC, dI) vwCl tys U ∧ va_D (fun _ => True) X)
abbrev kB (dC : Nat → ClassId) (dI : Nat → Nat → Nat) (tys : List (ClassId × FieldType)) (X2 : va_W) (A : Nat → Prop) : Unit → State → Prop := fun _ t => va_P (dC, dI) vwCl X2 t.heap ∧ va_K (dC, dI) vwCl tys t ∧ va_D A X2
def kMi (l : Launch) (y : MethodName) (ws : List Cond) (rm : Room) (dC : Nat → ClassId) (dI : Nat → Nat → Nat) (tys : List (ClassId × FieldType)) (X : va_W) (av : List Value) (r : Int32) (X2 : va_W) : Prop :=
  ∀ sz : Nat, Met l y ws rm (kPc dC dI tys X sz av) (va_Qi (fun (r' : Int32) (_ : Unit) => r' = r) (kB dC dI tys X2 (va_A X sz)) (va_A X sz)) 0 0 (va_A X sz)
def kMv (l : Launch) (y : MethodName) (ws : List Cond) (rm : Room) (dC : Nat → ClassId) (dI : Nat → Nat → Nat) (tys : List (ClassId × FieldType)) (X : va_W) (av : List Value) (X2 : va_W) : Prop :=
  ∀ sz : Nat, Met l y ws rm (kPc dC dI tys X sz av) (va_Qv (fun (_ : Unit) => True) (kB dC dI tys X2 (va_A X sz)) (va_A X sz)) 0 0 (va_A X sz)
theorem kv_of {l : Launch} {y : MethodName} {ws ws' : List Cond} {rm : Room} {dC : Nat → ClassId} {dI : Nat → Nat → Nat} {tys : List (ClassId × FieldType)} {X : va_W} {av : List Value} {Qc : (Nat → Prop) → Array Value → State → Outcome → State → Prop} {cc : ByteArray} {maxL : Nat} {ret : Option FieldType}
    (hy : plainName y.cls = true) (hw : ws = Cond.code y cc maxL ret :: ws') (hlen : (lg_sl av).length ≤ maxL)
    (body : ∀ (p : Program) (e : Env) (s : State) (m : MethodId) (below : List Frame) (meth : Method) (c : Code) (A : Nat → Prop) (ls : Array Slot), p.tables.exec = Jvm.exec → c.code = cc → c.maxLocals = maxL → meth.sig.returnType = ret → (∀ w ∈ ws, w.before av.toArray s = true) → s.vm.findClass y.cls = some m.cls → meth.locks = false →
      (∀ q : Nat, s.heap.size ≤ q → A q) → va_P (dC, dI) vwCl X s.heap → va_K (dC, dI) vwCl tys s → va_D A X → va_S A s.heap s.heap [] → lv_has ls maxL (lv_args 0 av) →
      W p l e (headSpec ws rm).room s m av.toArray below meth c s.heap [] 0 0 (MQ below (Qc A) av.toArray s 0 0 A) (F0 m 0 ls [])) (sz : Nat) :
    Met l y ws rm (kPc dC dI tys X sz av) (Qc (va_A X sz)) 0 0 (va_A X sz) := by
  refine Met.ofW (cc := cc) (maxL := maxL) (ret := ret) hy hw ?_
  intro p e s m args below meth c s₁ B hml hv
  obtain ⟨rfl, hsz, hP, hK, hD0⟩ := hv
  subst hsz
  rw [lg_entry_eq]
  exact body p e s m below meth c _ _ B.exec B.bytes hml B.returns (atoms_spec (ws := ws) B.pre) (findClass_of_methodNamed B.named) B.notSynchronized
    (fun q h => Or.inr h) hP hK (hD0.self (sz := s.heap.size)) va_S.rf (lv_entry av hlen)
theorem kMi_of {l : Launch} {y : MethodName} {ws ws' : List Cond} {rm : Room} {dC : Nat → ClassId} {dI : Nat → Nat → Nat} {tys : List (ClassId × FieldType)} {X X2 : va_W} {av : List Value} {r : Int32} {cc : ByteArray} {maxL : Nat} {ret : Option FieldType}
    (hy : plainName y.cls = true) (hw : ws = Cond.code y cc maxL ret :: ws') (hlen : (lg_sl av).length ≤ maxL)
    (body : ∀ (p : Program) (e : Env) (s : State) (m : MethodId) (below : List Frame) (meth : Method) (c : Code) (A : Nat → Prop) (ls : Array Slot), p.tables.exec = Jvm.exec → c.code = cc → c.maxLocals = maxL → meth.sig.returnType = ret → (∀ w ∈ ws, w.before av.toArray s = true) → s.vm.findClass y.cls = some m.cls → meth.locks = false →
      (∀ q : Nat, s.heap.size ≤ q → A q) → va_P (dC, dI) vwCl X s.heap → va_K (dC, dI) vwCl tys s → va_D A X → va_S A s.heap s.heap [] → lv_has ls maxL (lv_args 0 av) →
      W p l e (headSpec ws rm).room s m av.toArray below meth c s.heap [] 0 0 (MQ below (va_Qi (fun (r' : Int32) (_ : Unit) => r' = r) (kB dC dI tys X2 A) A) av.toArray s 0 0 A) (F0 m 0 ls [])) : kMi l y ws rm dC dI tys X av r X2 :=
  fun sz => kv_of (Qc := fun A => va_Qi (fun (r' : Int32) (_ : Unit) => r' = r) (kB dC dI tys X2 A) A) hy hw hlen body sz
theorem kMv_of {l : Launch} {y : MethodName} {ws ws' : List Cond} {rm : Room} {dC : Nat → ClassId} {dI : Nat → Nat → Nat} {tys : List (ClassId × FieldType)} {X X2 : va_W} {av : List Value} {cc : ByteArray} {maxL : Nat} {ret : Option FieldType}
    (hy : plainName y.cls = true) (hw : ws = Cond.code y cc maxL ret :: ws') (hlen : (lg_sl av).length ≤ maxL)
    (body : ∀ (p : Program) (e : Env) (s : State) (m : MethodId) (below : List Frame) (meth : Method) (c : Code) (A : Nat → Prop) (ls : Array Slot), p.tables.exec = Jvm.exec → c.code = cc → c.maxLocals = maxL → meth.sig.returnType = ret → (∀ w ∈ ws, w.before av.toArray s = true) → s.vm.findClass y.cls = some m.cls → meth.locks = false →
      (∀ q : Nat, s.heap.size ≤ q → A q) → va_P (dC, dI) vwCl X s.heap → va_K (dC, dI) vwCl tys s → va_D A X → va_S A s.heap s.heap [] → lv_has ls maxL (lv_args 0 av) →
      W p l e (headSpec ws rm).room s m av.toArray below meth c s.heap [] 0 0 (MQ below (va_Qv (fun (_ : Unit) => True) (kB dC dI tys X2 A) A) av.toArray s 0 0 A) (F0 m 0 ls [])) : kMv l y ws rm dC dI tys X av X2 :=
  fun sz => kv_of (Qc := fun A => va_Qv (fun (_ : Unit) => True) (kB dC dI tys X2 A) A) hy hw hlen body sz
section
variable {p : Program} {l : Launch} {e : Env} {R : Room} {s : State} {m : MethodId} {args : Array Value} {below : List Frame} {meth : Method} {c : Code} {H : Heap} {locs : List Loc} {cells slots : Nat} {Q : State → Prop} {cc : ByteArray} {pc : Nat} {ls : Array Slot} {rest st0 As : List Value}
variable {dC : Nat → ClassId} {dI : Nat → Nat → Nat} {tys tyc : List (ClassId × FieldType)} {ws X X2 Xr Y : va_W} {A : Nat → Prop} {H0 : Heap} {Ts wy wy' : List Cond} {own C : String} {y : MethodName} {rm : Room} {r : Int32} {index maxL nL n ci q0 : Nat} {bytes : ByteArray} {ret : Option FieldType} {b : Addr}
theorem kMi_ret (hx : p.tables.exec = Jvm.exec) (hb : c.code = cc) (hr : meth.sig.returnType = some .int) (hlocks : meth.locks = false) (hP : va_P (dC, dI) vwCl X H) (hK : va_K (dC, dI) vwCl tys s) (hD : va_D A X) (hS : va_S A s.heap H locs) {v : Int32} (hdg : decode cc pc = .ok (.ireturn, 1)) (hv : v = r) (hX : X = X2) :
    W p l e R s m args below meth c H locs 0 0 (MQ below (va_Qi (fun (r' : Int32) (_ : Unit) => r' = r) (kB dC dI tys X2 A) A) args s 0 0 A) (F0 m pc ls [.int v]) := by
  subst hX
  exact W.iret (v := v) hx hb hr (fun t ht hW => ⟨⟨v, (), rfl, hv, by rw [ht]; exact hP, va_K.moved hW.alike hK, hD⟩, hS.F ht⟩) hS.2.2 hdg hlocks
theorem kMi_zret (hx : p.tables.exec = Jvm.exec) (hb : c.code = cc) (hr : meth.sig.returnType = some .boolean) (hlocks : meth.locks = false) (hP : va_P (dC, dI) vwCl X H) (hK : va_K (dC, dI) vwCl tys s) (hD : va_D A X) (hS : va_S A s.heap H locs) {v : Int32} (hdg : decode cc pc = .ok (.ireturn, 1)) (hn : narrow .boolean (.int v) = .int v) (hv : v = r) (hX : X = X2) :
    W p l e R s m args below meth c H locs 0 0 (MQ below (va_Qi (fun (r' : Int32) (_ : Unit) => r' = r) (kB dC dI tys X2 A) A) args s 0 0 A) (F0 m pc ls [.int v]) := by
  subst hX
  exact W.zret (v := v) hx hb hr hn (fun t ht hW => ⟨⟨v, (), rfl, hv, by rw [ht]; exact hP, va_K.moved hW.alike hK, hD⟩, hS.F ht⟩) hS.2.2 hdg hlocks
theorem kMv_ret (hx : p.tables.exec = Jvm.exec) (hb : c.code = cc) (hr : meth.sig.returnType = none) (hlocks : meth.locks = false) (hP : va_P (dC, dI) vwCl X H) (hK : va_K (dC, dI) vwCl tys s) (hD : va_D A X) (hS : va_S A s.heap H locs) (hdg : decode cc pc = .ok (.return_, 1)) (hX : X = X2) :
    W p l e R s m args below meth c H locs 0 0 (MQ below (va_Qv (fun (_ : Unit) => True) (kB dC dI tys X2 A) A) args s 0 0 A) (F0 m pc ls []) := by
  subst hX
  exact W.vret hx hb hr (fun t ht hW => ⟨⟨(), rfl, trivial, by rw [ht]; exact hP, va_K.moved hW.alike hK, hD⟩, hS.F ht⟩) hS.2.2 hdg hlocks
theorem kPc_blind {av : List Value} {sz : Nat} : FrameBlind (kPc dC dI tys X sz av) := fun a U g mk q => by
  obtain ⟨q0, q1, qP, qK, qD⟩ := q
  exact ⟨q0, q1, qP, va_K.moved (u := U) (U := U.calling g mk a) (Vm.Alike.refl U.vm) qK, qD⟩
/-- a call of an object's method that answers an int; the callee's world X lies in ws by the places isC, the rest Xr by isR -/
theorem kv_Vi (hM : kMi l y wy rm dC dI tyc X (.ref b :: As) r X2) (hx : p.tables.exec = Jvm.exec) (hb : c.code = cc) (hml : c.maxLocals = nL) (hown : s.vm.findClass own = some m.cls) (hts : ∀ w ∈ Ts, w.before args s = true) (hG : GoodIn Ts (wsV own index C y wy)) (hw : wy = Cond.code y bytes maxL ret :: wy') (hrm : rm.cells = 0 ∧ rm.slots = 0)
    (hd : y.cls = C ∧ y.cls ≠ "java/lang/invoke/MethodHandle" ∧ y.cls ≠ "java/lang/invoke/VarHandle" ∧ (parseMethodDescriptor y.desc).map (fun d => d.parameters.length) = some n) (hAl : As.length = n) (hR : rm.frames + 1 ≤ R.frames ∧ 8 + (maxL + 11) + rm.locals ≤ R.locals)
    (hK : va_K (dC, dI) vwCl tys s) (hP : va_P (dC, dI) vwCl ws H) (hD : va_D A ws) (hS : va_S A H0 H locs) (hA : ∀ q : Nat, H0.size ≤ q → A q) (isT isC isR : List Nat) (hT : isT.filterMap (fun i => tys[i]?) = tyc) (hC : isC.map (fun i => ws[i]?) = X.map some) (hRr : isR.map (fun i => ws[i]?) = Xr.map some) (hnd : va_nd isR = true) (hdis : ∀ i ∈ isR, i ∉ isC)
    {fs : List Value} (he : X[q0]? = some (b, .inr (ci, fs))) {T : u_T} {N : Nat} (hc : vwCl[ci]? = some (C, T, N)) (hsub : isC.filterMap (fun i => ws[i]?) = X) (hcd : va_nd isC = true)
    (hl : ls.size = nL) (hst : st0 = As.reverse ++ .ref b :: rest) (hroom : (rest.map fun v => v.category).sum ≤ 8) (hdg : decode cc pc = .ok (.invokevirtual index, 3)) (hcs : cells ≤ R.cells ∧ slots ≤ R.slots)
    (kk : ∀ (H1 : Heap) (locs1 : List Loc), va_P (dC, dI) vwCl (Xr ++ X2) H1 → va_D A (Xr ++ X2) → va_S A H0 H1 locs1 → W p l e R s m args below meth c H1 locs1 cells slots Q (F0 m (pc + 3) ls (.int r :: rest))) :
    W p l e R s m args below meth c H locs cells slots Q (F0 m pc ls st0) := by
  have hPc : va_P (dC, dI) vwCl X H := hP.sub (ws' := X) isC hsub
  have hDc : va_D A X := hD.sub (ws' := X) isC hcd hC
  have hKc : va_K (dC, dI) vwCl tyc s := hK.sub (tys' := tyc) isT hT
  have hFc := va_free (wc := X) hD hS hA isC hC
  refine va_calli (va_runV (As := As) (rest := rest) ⟨hx, hb, hml, hown, hts⟩ (hM H.size) (cwV n hts hG hw hrm.1 hrm.2 hd hR) ⟨kPc_blind, va_recv hKc hPc hc he, fun U hU hW => ⟨rfl, by rw [hU], by rw [hU]; exact hPc, va_K.moved hW.alike hKc, hDc.weaken (fun _ _ _ _ => trivial)⟩⟩ rfl hAl hl hst (lv_room hroom) hdg ⟨by omega, by omega⟩) hS (fun q _ h => hFc q h) hFc (fun r1 u t H1 locs1 ht hvm hw1 hB hz1 hk1 hS1 => ?_)
  obtain ⟨hP1, hK1, hD1⟩ := hB
  rw [ht] at hP1
  obtain ⟨hP2, hD2⟩ := va_join (wr := Xr) (w1 := X2) hP hD isC isR hC hRr hnd hdis hk1 hFc hP1 hD1
  subst hw1
  exact kk H1 locs1 hP2 hD2 hS1
theorem kv_Vv (hM : kMv l y wy rm dC dI tyc X (.ref b :: As) X2) (hx : p.tables.exec = Jvm.exec) (hb : c.code = cc) (hml : c.maxLocals = nL) (hown : s.vm.findClass own = some m.cls) (hts : ∀ w ∈ Ts, w.before args s = true) (hG : GoodIn Ts (wsV own index C y wy)) (hw : wy = Cond.code y bytes maxL ret :: wy') (hrm : rm.cells = 0 ∧ rm.slots = 0)
    (hd : y.cls = C ∧ y.cls ≠ "java/lang/invoke/MethodHandle" ∧ y.cls ≠ "java/lang/invoke/VarHandle" ∧ (parseMethodDescriptor y.desc).map (fun d => d.parameters.length) = some n) (hAl : As.length = n) (hR : rm.frames + 1 ≤ R.frames ∧ 8 + (maxL + 11) + rm.locals ≤ R.locals)
    (hK : va_K (dC, dI) vwCl tys s) (hP : va_P (dC, dI) vwCl ws H) (hD : va_D A ws) (hS : va_S A H0 H locs) (hA : ∀ q : Nat, H0.size ≤ q → A q) (isT isC isR : List Nat) (hT : isT.filterMap (fun i => tys[i]?) = tyc) (hC : isC.map (fun i => ws[i]?) = X.map some) (hRr : isR.map (fun i => ws[i]?) = Xr.map some) (hnd : va_nd isR = true) (hdis : ∀ i ∈ isR, i ∉ isC)
    {fs : List Value} (he : X[q0]? = some (b, .inr (ci, fs))) {T : u_T} {N : Nat} (hc : vwCl[ci]? = some (C, T, N)) (hsub : isC.filterMap (fun i => ws[i]?) = X) (hcd : va_nd isC = true)
    (hl : ls.size = nL) (hst : st0 = As.reverse ++ .ref b :: rest) (hroom : (rest.map fun v => v.category).sum ≤ 8) (hdg : decode cc pc = .ok (.invokevirtual index, 3)) (hcs : cells ≤ R.cells ∧ slots ≤ R.slots)
    (kk : ∀ (H1 : Heap) (locs1 : List Loc), va_P (dC, dI) vwCl (Xr ++ X2) H1 → va_D A (Xr ++ X2) → va_S A H0 H1 locs1 → W p l e R s m args below meth c H1 locs1 cells slots Q (F0 m (pc + 3) ls rest)) :
    W p l e R s m args below meth c H locs cells slots Q (F0 m pc ls st0) := by
  have hPc : va_P (dC, dI) vwCl X H := hP.sub (ws' := X) isC hsub
  have hDc : va_D A X := hD.sub (ws' := X) isC hcd hC
  have hKc : va_K (dC, dI) vwCl tyc s := hK.sub (tys' := tyc) isT hT
  have hFc := va_free (wc := X) hD hS hA isC hC
  refine va_callv (va_runV (As := As) (rest := rest) ⟨hx, hb, hml, hown, hts⟩ (hM H.size) (cwV n hts hG hw hrm.1 hrm.2 hd hR) ⟨kPc_blind, va_recv hKc hPc hc he, fun U hU hW => ⟨rfl, by rw [hU], by rw [hU]; exact hPc, va_K.moved hW.alike hKc, hDc.weaken (fun _ _ _ _ => trivial)⟩⟩ rfl hAl hl hst (lv_room hroom) hdg ⟨by omega, by omega⟩) hS (fun q _ h => hFc q h) hFc (fun u t H1 locs1 ht hvm hw1 hB hz1 hk1 hS1 => ?_)
  obtain ⟨hP1, hK1, hD1⟩ := hB
  rw [ht] at hP1
  obtain ⟨hP2, hD2⟩ := va_join (wr := Xr) (w1 := X2) hP hD isC isR hC hRr hnd hdis hk1 hFc hP1 hD1
  exact kk H1 locs1 hP2 hD2 hS1
theorem kv_Si (hM : kMi l y wy rm dC dI tyc X As r X2) (hx : p.tables.exec = Jvm.exec) (hb : c.code = cc) (hml : c.maxLocals = nL) (hown : s.vm.findClass own = some m.cls) (hts : ∀ w ∈ Ts, w.before args s = true) (hG : GoodIn Ts (va_wsS own index y wy)) (hw : wy = Cond.code y bytes maxL ret :: wy') (hrm : rm.cells = 0 ∧ rm.slots = 0)
    (hd : y.cls ≠ "java/lang/invoke/MethodHandle" ∧ y.cls ≠ "java/lang/invoke/VarHandle" ∧ (parseMethodDescriptor y.desc).map (fun d => d.parameters.length) = some n) (hAl : As.length = n) (hR : rm.frames + 1 ≤ R.frames ∧ 8 + (maxL + 11) + rm.locals ≤ R.locals)
    (hK : va_K (dC, dI) vwCl tys s) (hP : va_P (dC, dI) vwCl ws H) (hD : va_D A ws) (hS : va_S A H0 H locs) (hA : ∀ q : Nat, H0.size ≤ q → A q) (isT isC isR : List Nat) (hT : isT.filterMap (fun i => tys[i]?) = tyc) (hC : isC.map (fun i => ws[i]?) = X.map some) (hRr : isR.map (fun i => ws[i]?) = Xr.map some) (hnd : va_nd isR = true) (hdis : ∀ i ∈ isR, i ∉ isC)
    (hsub : isC.filterMap (fun i => ws[i]?) = X) (hcd : va_nd isC = true)
    (hl : ls.size = nL) (hst : st0 = As.reverse ++ rest) (hroom : (rest.map fun v => v.category).sum ≤ 8) (hdg : decode cc pc = .ok (.invokestatic index, 3)) (hcs : cells ≤ R.cells ∧ slots ≤ R.slots)
    (kk : ∀ (H1 : Heap) (locs1 : List Loc), va_P (dC, dI) vwCl (Xr ++ X2) H1 → va_D A (Xr ++ X2) → va_S A H0 H1 locs1 → W p l e R s m args below meth c H1 locs1 cells slots Q (F0 m (pc + 3) ls (.int r :: rest))) :
    W p l e R s m args below meth c H locs cells slots Q (F0 m pc ls st0) := by
  have hPc : va_P (dC, dI) vwCl X H := hP.sub (ws' := X) isC hsub
  have hDc : va_D A X := hD.sub (ws' := X) isC hcd hC
  have hKc : va_K (dC, dI) vwCl tyc s := hK.sub (tys' := tyc) isT hT
  have hFc := va_free (wc := X) hD hS hA isC hC
  refine va_calli (va_runS (As := As) (rest := rest) ⟨hx, hb, hml, hown, hts⟩ (hM H.size) (va_cwS n hts hG hw hrm.1 hrm.2 hd hR) ⟨kPc_blind, fun U hU hW => ⟨rfl, by rw [hU], by rw [hU]; exact hPc, va_K.moved hW.alike hKc, hDc.weaken (fun _ _ _ _ => trivial)⟩⟩ rfl hAl hl hst (lv_room hroom) hdg ⟨by omega, by omega⟩) hS (fun q _ h => hFc q h) hFc (fun r1 u t H1 locs1 ht hvm hw1 hB hz1 hk1 hS1 => ?_)
  obtain ⟨hP1, hK1, hD1⟩ := hB
  rw [ht] at hP1
  obtain ⟨hP2, hD2⟩ := va_join (wr := Xr) (w1 := X2) hP hD isC isR hC hRr hnd hdis hk1 hFc hP1 hD1
  subst hw1
  exact kk H1 locs1 hP2 hD2 hS1
theorem kv_Sv (hM : kMv l y wy rm dC dI tyc X As X2) (hx : p.tables.exec = Jvm.exec) (hb : c.code = cc) (hml : c.maxLocals = nL) (hown : s.vm.findClass own = some m.cls) (hts : ∀ w ∈ Ts, w.before args s = true) (hG : GoodIn Ts (va_wsS own index y wy)) (hw : wy = Cond.code y bytes maxL ret :: wy') (hrm : rm.cells = 0 ∧ rm.slots = 0)
    (hd : y.cls ≠ "java/lang/invoke/MethodHandle" ∧ y.cls ≠ "java/lang/invoke/VarHandle" ∧ (parseMethodDescriptor y.desc).map (fun d => d.parameters.length) = some n) (hAl : As.length = n) (hR : rm.frames + 1 ≤ R.frames ∧ 8 + (maxL + 11) + rm.locals ≤ R.locals)
    (hK : va_K (dC, dI) vwCl tys s) (hP : va_P (dC, dI) vwCl ws H) (hD : va_D A ws) (hS : va_S A H0 H locs) (hA : ∀ q : Nat, H0.size ≤ q → A q) (isT isC isR : List Nat) (hT : isT.filterMap (fun i => tys[i]?) = tyc) (hC : isC.map (fun i => ws[i]?) = X.map some) (hRr : isR.map (fun i => ws[i]?) = Xr.map some) (hnd : va_nd isR = true) (hdis : ∀ i ∈ isR, i ∉ isC)
    (hsub : isC.filterMap (fun i => ws[i]?) = X) (hcd : va_nd isC = true)
    (hl : ls.size = nL) (hst : st0 = As.reverse ++ rest) (hroom : (rest.map fun v => v.category).sum ≤ 8) (hdg : decode cc pc = .ok (.invokestatic index, 3)) (hcs : cells ≤ R.cells ∧ slots ≤ R.slots)
    (kk : ∀ (H1 : Heap) (locs1 : List Loc), va_P (dC, dI) vwCl (Xr ++ X2) H1 → va_D A (Xr ++ X2) → va_S A H0 H1 locs1 → W p l e R s m args below meth c H1 locs1 cells slots Q (F0 m (pc + 3) ls rest)) :
    W p l e R s m args below meth c H locs cells slots Q (F0 m pc ls st0) := by
  have hPc : va_P (dC, dI) vwCl X H := hP.sub (ws' := X) isC hsub
  have hDc : va_D A X := hD.sub (ws' := X) isC hcd hC
  have hKc : va_K (dC, dI) vwCl tyc s := hK.sub (tys' := tyc) isT hT
  have hFc := va_free (wc := X) hD hS hA isC hC
  refine va_callv (va_runS (As := As) (rest := rest) ⟨hx, hb, hml, hown, hts⟩ (hM H.size) (va_cwS n hts hG hw hrm.1 hrm.2 hd hR) ⟨kPc_blind, fun U hU hW => ⟨rfl, by rw [hU], by rw [hU]; exact hPc, va_K.moved hW.alike hKc, hDc.weaken (fun _ _ _ _ => trivial)⟩⟩ rfl hAl hl hst (lv_room hroom) hdg ⟨by omega, by omega⟩) hS (fun q _ h => hFc q h) hFc (fun u t H1 locs1 ht hvm hw1 hB hz1 hk1 hS1 => ?_)
  obtain ⟨hP1, hK1, hD1⟩ := hB
  rw [ht] at hP1
  obtain ⟨hP2, hD2⟩ := va_join (wr := Xr) (w1 := X2) hP hD isC isR hC hRr hnd hdis hk1 hFc hP1 hD1
  exact kk H1 locs1 hP2 hD2 hS1
end
end
section
/-! the class: its world, and what its methods compute -/
abbrev wX0 (cA : ClassId) (h0 q0 q1 q2 q3 q4 q5 : Nat) (w ce nm tl tc tw : Nat → Int32) (T n m : Nat) (wtc wia off : Int32) : va_W :=
  [(h0, .inr (0, [.ref q0, .ref q1, .ref q2, .ref q3, .ref q4, .ref q5, .int (nI T), .int (nI n), .int (nI m), .int wtc, .int wia, .int off])), (q0, .inl (cA, 98, .inl w)), (q1, .inl (cA, 32, .inl ce)), (q2, .inl (cA, 88, .inl nm)), (q3, .inl (cA, 60, .inl tl)), (q4, .inl (cA, 60, .inl tc)), (q5, .inl (cA, 60, .inl tw))]
def kx_holds (set cell : Int32) : Int32 := if ((set.toUInt32 >>> (cell.toUInt32 &&& Int32.toUInt32 31)).toInt32 &&& nI 1) = 0 then nI 0 else nI 1
def kx_isCell (cell : Int32) : Int32 := if cell < 0 then nI 0 else if nI 32 ≤ cell then nI 0 else nI 1
/-- the place behind the innermost transaction's first level among n: 0 for none -/
def kx_inn (nm : Nat → Int32) : Nat → Nat
  | 0 => 0
  | k + 1 => if nm k = (-1) then k + 1 else kx_inn nm k
theorem kx_inn_le (nm : Nat → Int32) : ∀ k, kx_inn nm k ≤ k
  | 0 => Nat.le_refl 0
  | k + 1 => by
    have h := kx_inn_le nm k
    rw [kx_inn]
    split <;> omega
/-- the place behind the latest level of that name at or behind place j -/
def kx_pl (nm : Nat → Int32) (name : Int32) (j : Nat) : Nat → Nat
  | 0 => 0
  | k + 1 => if k + 1 ≤ j then 0 else if nm k = name then k + 1 else kx_pl nm name j k
theorem kx_pl_le (nm : Nat → Int32) (name : Int32) (j : Nat) : ∀ k, kx_pl nm name j k ≤ k
  | 0 => Nat.le_refl 0
  | k + 1 => by
    have h := kx_pl_le nm name j k
    rw [kx_pl]
    split
    · omega
    · split <;> omega
theorem kv_pred (n : Nat) : nI (n + 1) - nI 1 = nI n := by rw [pk_sub (by omega)]; rfl
theorem kv_decr (x : Int32) : x + Int32.ofInt (-1) = x - nI 1 := by
  rw [Int32.sub_eq_add_neg]; rfl
theorem kv_m1 : nI 0 - nI 1 = -1 := by decide
theorem kv_m1T {a : Nat} (ha : a < 2 ^ 31) : (nI a - nI 1).toInt = (a : Int) - 1 := by
  cases a with
  | zero => decide
  | succ b => rw [kv_pred, nI_toInt (by omega)]; omega
theorem kv_m1le {a b : Nat} (ha : a < 2 ^ 31) (hb : b < 2 ^ 31) : nI a - nI 1 ≤ nI b - nI 1 ↔ a ≤ b := by
  rw [Int32.le_iff_toInt_le, kv_m1T ha, kv_m1T hb]; omega
theorem kv_m1lt0 {a : Nat} (ha : a < 2 ^ 31) : nI a - nI 1 < 0 ↔ a = 0 := by
  rw [Int32.lt_iff_toInt_lt, kv_m1T ha]
  show (a : Int) - 1 < 0 ↔ a = 0
  omega
theorem kv_m1sub {a b : Nat} (h : b ≤ a) : nI a - nI 1 - (nI b - nI 1) = nI (a - b) := by
  rw [← pk_sub h]
  simp only [Int32.sub_eq_add_neg, Int32.neg_add, Int32.neg_neg]
  rw [Int32.add_assoc, ← Int32.add_assoc (-nI 1), Int32.add_comm (-nI 1), Int32.add_assoc, Int32.add_comm (-nI 1), Int32.add_right_neg, Int32.add_zero]
def kx_tc (tl tc : Nat → Int32) (lv : Int32) : Nat → Int32
  | 0 => 0
  | k + 1 => if tl k = lv then kx_tc tl tc lv k ||| ((nI 1) <<< (tc k &&& 31)) else kx_tc tl tc lv k
/-- the traces behind a fold, when k of them are looked at: how many are kept, and the three arrays -/
def kx_fo (bef lv : Int32) (tl tc tw : Nat → Int32) : Nat → Nat × (Nat → Int32) × (Nat → Int32) × (Nat → Int32)
  | 0 => (0, tl, tc, tw)
  | t + 1 => if (kx_fo bef lv tl tc tw t).2.1 t = lv ∧ ¬ kx_holds bef ((kx_fo bef lv tl tc tw t).2.2.1 t) = 0 then kx_fo bef lv tl tc tw t
    else ((kx_fo bef lv tl tc tw t).1 + 1,
      upd (kx_fo bef lv tl tc tw t).2.1 (kx_fo bef lv tl tc tw t).1 (if lv ≤ (kx_fo bef lv tl tc tw t).2.1 t then (kx_fo bef lv tl tc tw t).2.1 t - nI 1 else (kx_fo bef lv tl tc tw t).2.1 t),
      upd (kx_fo bef lv tl tc tw t).2.2.1 (kx_fo bef lv tl tc tw t).1 ((kx_fo bef lv tl tc tw t).2.2.1 t),
      upd (kx_fo bef lv tl tc tw t).2.2.2 (kx_fo bef lv tl tc tw t).1 ((kx_fo bef lv tl tc tw t).2.2.2 t))
theorem kx_fo_le (bef lv : Int32) (tl tc tw : Nat → Int32) : ∀ t, (kx_fo bef lv tl tc tw t).1 ≤ t
  | 0 => Nat.le_refl 0
  | t + 1 => by
    have h := kx_fo_le bef lv tl tc tw t
    rw [kx_fo]
    split
    · omega
    · exact Nat.succ_le_succ h
/-- names when the levels behind lev moved down, up to place i -/
def kx_sh (nm : Nat → Int32) (lev i : Nat) : Nat → Int32 := fun j => if lev ≤ j ∧ j + 1 < i then nm (j + 1) else nm j
theorem kx_sh_0 (nm : Nat → Int32) (lev : Nat) : kx_sh nm lev (lev + 1) = nm := by
  funext j
  rw [kx_sh, if_neg (by omega)]
theorem kx_sh_s (nm : Nat → Int32) (lev i : Nat) (h : lev < i) : upd (kx_sh nm lev i) (i - 1) (kx_sh nm lev i i) = kx_sh nm lev (i + 1) := by
  funext j
  rcases Nat.decEq j (i - 1) with q | q
  · rw [pk_un q]
    simp only [kx_sh]
    by_cases h1 : lev ≤ j ∧ j + 1 < i
    · rw [if_pos h1, if_pos (by omega)]
    · rw [if_neg h1, if_neg (by omega)]
  · subst q
    rw [pk_us]
    simp only [kx_sh]
    rw [if_neg (by omega), if_pos (by omega)]
    congr 1
    omega
/-- back over the traces of the levels from lev on: traces left, cells, how many are gone -/
def kx_gb (tl tc tw : Nat → Int32) (lev : Int32) : Nat → (Nat → Int32) → Nat → Nat × (Nat → Int32) × Nat
  | 0, ce, g => (0, ce, g)
  | k + 1, ce, g => if tl k < lev then (k + 1, ce, g) else kx_gb tl tc tw lev k (upd ce (tc k).toNatClampNeg (tw k)) (g + 1)
/-- a word is put: words, writes till crash, writes in all, off -/
def kx_pw (D : (Nat → Int32) × Int32 × Int32 × Int32) (i : Nat) (v : Int32) : (Nat → Int32) × Int32 × Int32 × Int32 :=
  if D.2.2.2 = 0 then
    if D.2.1 = nI 1 then (D.1, nI 0, D.2.2.1, nI 1) else (upd D.1 i v, if D.2.1 ≤ nI 1 then D.2.1 else D.2.1 - nI 1, D.2.2.1 + nI 1, D.2.2.2)
  else D
def kx_we (tr : Int32) (ce : Nat → Int32) (D : (Nat → Int32) × Int32 × Int32 × Int32) : Nat → ((Nat → Int32) × Int32 × Int32 × Int32) × Nat
  | 0 => (D, 34)
  | k + 1 => if kx_holds tr (nI k) = 0 then kx_we tr ce D k
    else (kx_pw (kx_pw (kx_we tr ce D k).1 (kx_we tr ce D k).2 (nI k)) ((kx_we tr ce D k).2 + 1) (ce k), (kx_we tr ce D k).2 + 2)
theorem kx_we_le (tr : Int32) (ce : Nat → Int32) (D : (Nat → Int32) × Int32 × Int32 × Int32) : ∀ k, 34 ≤ (kx_we tr ce D k).2 ∧ (kx_we tr ce D k).2 ≤ 34 + 2 * k
  | 0 => ⟨Nat.le_refl _, Nat.le_refl _⟩
  | k + 1 => by
    have h := kx_we_le tr ce D k
    rw [kx_we]
    split
    · omega
    · show 34 ≤ (kx_we tr ce D k).2 + 2 ∧ (kx_we tr ce D k).2 + 2 ≤ _
      omega
def kx_wh (tr : Int32) (ce : Nat → Int32) (D : (Nat → Int32) × Int32 × Int32 × Int32) : Nat → (Nat → Int32) × Int32 × Int32 × Int32
  | 0 => D
  | k + 1 => if kx_holds tr (nI k) = 0 then kx_wh tr ce D k else kx_pw (kx_wh tr ce D k) k (ce k)
/-- homes out of entries: the disk, and how many homes were written -/
def kx_hf (D : (Nat → Int32) × Int32 × Int32 × Int32) : Nat → ((Nat → Int32) × Int32 × Int32 × Int32) × Nat
  | 0 => (D, 0)
  | j + 1 => if kx_isCell ((kx_hf D j).1.1 (34 + 2 * j)) = 0 then kx_hf D j
    else (kx_pw (kx_hf D j).1 ((kx_hf D j).1.1 (34 + 2 * j)).toNatClampNeg ((kx_hf D j).1.1 (34 + 2 * j + 1)), (kx_hf D j).2 + 1)
theorem kx_hf_le (D : (Nat → Int32) × Int32 × Int32 × Int32) : ∀ k, (kx_hf D k).2 ≤ k
  | 0 => Nat.le_refl _
  | k + 1 => by
    have h := kx_hf_le D k
    rw [kx_hf]
    split
    · omega
    · exact Nat.succ_le_succ h
def kx_bc (x : Int32) : Int32 :=
  let a := x - ((x.toUInt32 >>> ((nI 1).toUInt32 &&& Int32.toUInt32 31)).toInt32 &&& 1431655765)
  let b := (a &&& 858993459) + ((a.toUInt32 >>> ((nI 2).toUInt32 &&& Int32.toUInt32 31)).toInt32 &&& 858993459)
  let d := (b + (b.toUInt32 >>> ((nI 4).toUInt32 &&& Int32.toUInt32 31)).toInt32) &&& 252645135
  let f := d + (d.toUInt32 >>> ((nI 8).toUInt32 &&& Int32.toUInt32 31)).toInt32
  let g := f + (f.toUInt32 >>> ((nI 16).toUInt32 &&& Int32.toUInt32 31)).toInt32
  g &&& nI 63
theorem kx_isCell_n {c : Nat} (h : c < 32) : kx_isCell (nI c) = nI 1 := by
  rw [kx_isCell, if_neg (nI_pos (by omega)), if_neg (fun q => absurd ((nI_leI (by omega) (by omega)).mp q) (by omega))]
theorem kx_isCell_of {v : Int32} (h : ¬ kx_isCell v = 0) : ∃ c : Nat, c < 32 ∧ v = nI c := by
  by_cases h1 : v < 0
  · exact absurd (by rw [kx_isCell, if_pos h1]; rfl) h
  · obtain ⟨j, hj, rfl⟩ := nI_of h1
    by_cases h2 : nI 32 ≤ nI j
    · exact absurd (by rw [kx_isCell, if_neg h1, if_pos h2]; rfl) h
    · exact ⟨j, Nat.lt_of_not_le (fun q => h2 ((nI_leI (by omega) hj).mpr q)), rfl⟩
theorem kv_n10 : ¬ nI 1 = 0 := by decide
theorem kv_nm1 {a : Nat} (ha : a < 2 ^ 31) : ¬ nI a = (-1) := fun h => absurd (nI_pos' ha) (by rw [h]; decide)
def kx_fill (f : Nat → Int32) (v : Int32) (i : Nat) : Nat → Int32 := fun j => if j < i then v else f j
theorem kx_fill_s (f : Nat → Int32) (v : Int32) (i : Nat) : upd (kx_fill f v i) i v = kx_fill f v (i + 1) := by
  funext j
  rcases Nat.decEq j i with q | q
  · rw [pk_un q]
    simp only [kx_fill]
    by_cases h : j < i
    · rw [if_pos h, if_pos (by omega)]
    · rw [if_neg h, if_neg (by omega)]
  · subst q
    rw [pk_us, kx_fill, if_pos (by omega)]
abbrev kx_D : Type := (Nat → Int32) × Int32 × Int32 × Int32
def kx_k1 (tr : Int32) (ce : Nat → Int32) (D : kx_D) : kx_D := (kx_we tr ce D 32).1
def kx_k2 (tr : Int32) (ce : Nat → Int32) (D : kx_D) : kx_D := kx_pw (kx_k1 tr ce D) 33 ((kx_k1 tr ce D).1 33 + nI 1)
/-- the writes of the outermost commit of the cells tr -/
def kx_kd (tr : Int32) (ce : Nat → Int32) (D : kx_D) : kx_D :=
  if kx_bc tr ≤ 0 then kx_k2 tr ce D else kx_pw (kx_wh tr ce (kx_pw (kx_k2 tr ce D) 32 (kx_bc tr)) 32) 32 (nI 0)
/-- names, trace levels, trace cells, trace values, levels, traces -/
abbrev kx_F : Type := (Nat → Int32) × (Nat → Int32) × (Nat → Int32) × (Nat → Int32) × Nat × Nat
def kx_fot (S : kx_F) (lev : Nat) : Nat × (Nat → Int32) × (Nat → Int32) × (Nat → Int32) := kx_fo (kx_tc S.2.1 S.2.2.1 (nI (lev - 1)) S.2.2.2.2.2) (nI lev) S.2.1 S.2.2.1 S.2.2.2.1 S.2.2.2.2.2
/-- level lev goes up in the one before it -/
def kx_fd (S : kx_F) (lev : Nat) : kx_F := (kx_sh S.1 lev S.2.2.2.2.1, (kx_fot S lev).2.1, (kx_fot S lev).2.2.1, (kx_fot S lev).2.2.2, S.2.2.2.2.1 - 1, (kx_fot S lev).1)
/-- the levels from the last down to place j go up, one after the other -/
def kx_cm (j : Nat) : Nat → kx_F → kx_F
  | 0, S => S
  | k + 1, S => if k + 1 ≤ j then S else kx_cm j k (kx_fd S k)
theorem kx_fd_z (S : kx_F) (lev : Nat) : (kx_fd S lev).2.2.2.2.2 ≤ S.2.2.2.2.2 := kx_fo_le _ _ _ _ _ _
theorem kx_cm_z (j : Nat) : ∀ (k : Nat) (S : kx_F), (kx_cm j k S).2.2.2.2.2 ≤ S.2.2.2.2.2
  | 0, S => Nat.le_refl _
  | k + 1, S => by
    rw [kx_cm]
    split
    · exact Nat.le_refl _
    · exact Nat.le_trans (kx_cm_z j k _) (kx_fd_z S k)
theorem kx_cm_n (j : Nat) (hj : 1 ≤ j) : ∀ (k : Nat) (S : kx_F), S.2.2.2.2.1 = k → j ≤ k → (kx_cm j k S).2.2.2.2.1 = j
  | 0, S, _, h2 => by omega
  | k + 1, S, h, h2 => by
    rw [kx_cm]
    by_cases q : k + 1 ≤ j
    · rw [if_pos q]; omega
    · rw [if_neg q]
      exact kx_cm_n j hj k (kx_fd S k) (by show S.2.2.2.2.1 - 1 = k; omega) (by omega)
end
section
set_option maxHeartbeats 4000000 in
set_option maxRecDepth 100000 in
/-- NestCells.isCell  -/
theorem c_X0_isCell (l : Launch) (dC : Nat → ClassId) (dI : Nat → Nat → Nat)  (cell : Int32)  : kMi l yX0_isCell wsX0_isCell ({ frames := 0, cells := 0, slots := 0, locals := 0 }) dC dI [] [] [.int cell] (kx_isCell cell) [] := by
  refine kMi_of (cc := cX0_isCell) (maxL := 1) (ret := (some .boolean)) (by decide) rfl (Nat.le_of_ble_eq_true rfl) ?_
  intro p e s m below meth c A ls hx hb hml hr hts hown hlocks hA hP hK hD hS hl
  have hl : lv_has ls 1 [(0, .int cell)] := hl
  refine lv_iload_n hx hb dX0_isCell_0 rfl (lv_at hl 0 rfl) ?_
  refine lv_if_lt (tgt := 14) hx hb dX0_isCell_1 (by decide) (fun h1_0 => ?_) (fun h1_0 => ?_)
  · skip
    refine lv_iconst (v := (nI 0)) hx hb dX0_isCell_14 (by decide) ?_
    exact kMi_zret hx hb hr hlocks hP hK hD hS dX0_isCell_15 (by decide) (by simp [kx_isCell, h1_0]) rfl
  · skip
    refine lv_iload_n hx hb dX0_isCell_4 rfl (lv_at hl 0 rfl) ?_
    refine lv_bipush (v := (nI 32)) hx hb dX0_isCell_5 (by decide) ?_
    refine lv_icmp_ge (tgt := 14) hx hb dX0_isCell_7 (by decide) (fun h7_1 => ?_) (fun h7_1 => ?_)
    · skip
      refine lv_iconst (v := (nI 0)) hx hb dX0_isCell_14 (by decide) ?_
      exact kMi_zret hx hb hr hlocks hP hK hD hS dX0_isCell_15 (by decide) (by simp [kx_isCell, h1_0, h7_1]) rfl
    · skip
      refine lv_iconst (v := (nI 1)) hx hb dX0_isCell_10 (by decide) ?_
      refine lv_goto (tgt := 15) hx hb dX0_isCell_11 (by decide) ?_
      exact kMi_zret hx hb hr hlocks hP hK hD hS dX0_isCell_15 (by decide) (by simp [kx_isCell, h1_0, h7_1]) rfl
set_option maxHeartbeats 4000000 in
set_option maxRecDepth 100000 in
/-- NestCells.holds  -/
theorem c_X0_holds (l : Launch) (dC : Nat → ClassId) (dI : Nat → Nat → Nat)  (set : Int32) (cell : Int32)  : kMi l yX0_holds wsX0_holds ({ frames := 0, cells := 0, slots := 0, locals := 0 }) dC dI [] [] [.int set, .int cell] (kx_holds set cell) [] := by
  refine kMi_of (cc := cX0_holds) (maxL := 2) (ret := (some .boolean)) (by decide) rfl (Nat.le_of_ble_eq_true rfl) ?_
  intro p e s m below meth c A ls hx hb hml hr hts hown hlocks hA hP hK hD hS hl
  have hl : lv_has ls 2 [(0, .int set), (1, .int cell)] := hl
  refine lv_iload_n hx hb dX0_holds_0 rfl (lv_at hl 0 rfl) ?_
  refine lv_iload_n hx hb dX0_holds_1 rfl (lv_at hl 1 rfl) ?_
  refine lv_iushr (v := (set.toUInt32 >>> (cell.toUInt32 &&& Int32.toUInt32 31)).toInt32) hx hb dX0_holds_2 rfl ?_
  refine lv_iconst (v := (nI 1)) hx hb dX0_holds_3 (by decide) ?_
  refine lv_iand hx hb dX0_holds_4 ?_
  refine lv_if_eq (tgt := 12) hx hb dX0_holds_5 (by decide) (fun h5_0 => ?_) (fun h5_0 => ?_)
  · skip
    refine lv_iconst (v := (nI 0)) hx hb dX0_holds_12 (by decide) ?_
    exact kMi_zret hx hb hr hlocks hP hK hD hS dX0_holds_13 (by decide) (by simp [kx_holds, h5_0]) rfl
  · skip
    refine lv_iconst (v := (nI 1)) hx hb dX0_holds_8 (by decide) ?_
    refine lv_goto (tgt := 13) hx hb dX0_holds_9 (by decide) ?_
    exact kMi_zret hx hb hr hlocks hP hK hD hS dX0_holds_13 (by decide) (by simp [kx_holds, h5_0]) rfl
set_option maxHeartbeats 4000000 in
set_option maxRecDepth 100000 in
/-- NestCells.forgetTransactions  -/
theorem c_X0_forgetTransactions (l : Launch) (dC : Nat → ClassId) (dI : Nat → Nat → Nat) (cA : ClassId) (h0 q0 q1 q2 q3 q4 q5 : Nat) (w ce nm tl tc tw : Nat → Int32) (T n z : Nat) (wtc wia off : Int32)   : kMv l yX0_forgetTransactions wsX0_forgetTransactions ({ frames := 0, cells := 0, slots := 0, locals := 0 }) dC dI [(cA, .int)] (wX0 cA h0 q0 q1 q2 q3 q4 q5 w ce nm tl tc tw T n z wtc wia off) [.ref h0] (wX0 cA h0 q0 q1 q2 q3 q4 q5 w ce nm tl tc tw 0 0 0 wtc wia off) := by
  refine kMv_of (cc := cX0_forgetTransactions) (maxL := 1) (ret := none) (by decide) rfl (Nat.le_of_ble_eq_true rfl) ?_
  intro p e s m below meth c A ls hx hb hml hr hts hown hlocks hA hP hK hD hS hl
  have hin : ∀ w ∈ u_ws RX0 TX0 12, w ∈ wsX0_forgetTransactions := by decide +kernel
  have hl : lv_has ls 1 [(0, .ref h0)] := hl
  refine lv_aload_n hx hb dX0_forgetTransactions_0 rfl (lv_at hl 0 rfl) ?_
  refine lv_iconst (v := (nI 0)) hx hb dX0_forgetTransactions_1 (by decide) ?_
  refine va_put (D := (dC, dI)) (ci := 0) (v := .int (nI 0)) (ty := .int) (C := RX0) (T := TX0) (N := 12) hx hb hts hin tyX0 tyX0_ok nmX0 hown hK hP hD hS 0 rfl rfl 6 (by decide) (hts (.fieldLink RX0 51 "NestCells" "transactions" "I") (by decide +kernel)) (fun _ h9 => h9) rfl (by decide +kernel) rfl rfl (Nat.le_of_ble_eq_true rfl) dX0_forgetTransactions_2 (fun H locs hP hD hS => ?_)
  have hP : va_P (dC, dI) vwCl (wX0 cA h0 q0 q1 q2 q3 q4 q5 w ce nm tl tc tw 0 n z wtc wia off) H := hP
  have hD : va_D A (wX0 cA h0 q0 q1 q2 q3 q4 q5 w ce nm tl tc tw 0 n z wtc wia off) := hD
  refine lv_aload_n hx hb dX0_forgetTransactions_5 rfl (lv_at hl 0 rfl) ?_
  refine lv_iconst (v := (nI 0)) hx hb dX0_forgetTransactions_6 (by decide) ?_
  refine va_put (D := (dC, dI)) (ci := 0) (v := .int (nI 0)) (ty := .int) (C := RX0) (T := TX0) (N := 12) hx hb hts hin tyX0 tyX0_ok nmX0 hown hK hP hD hS 0 rfl rfl 7 (by decide) (hts (.fieldLink RX0 71 "NestCells" "levels" "I") (by decide +kernel)) (fun _ h9 => h9) rfl (by decide +kernel) rfl rfl (Nat.le_of_ble_eq_true rfl) dX0_forgetTransactions_7 (fun H locs hP hD hS => ?_)
  have hP : va_P (dC, dI) vwCl (wX0 cA h0 q0 q1 q2 q3 q4 q5 w ce nm tl tc tw 0 0 z wtc wia off) H := hP
  have hD : va_D A (wX0 cA h0 q0 q1 q2 q3 q4 q5 w ce nm tl tc tw 0 0 z wtc wia off) := hD
  refine lv_aload_n hx hb dX0_forgetTransactions_10 rfl (lv_at hl 0 rfl) ?_
  refine lv_iconst (v := (nI 0)) hx hb dX0_forgetTransactions_11 (by decide) ?_
  refine va_put (D := (dC, dI)) (ci := 0) (v := .int (nI 0)) (ty := .int) (C := RX0) (T := TX0) (N := 12) hx hb hts hin tyX0 tyX0_ok nmX0 hown hK hP hD hS 0 rfl rfl 8 (by decide) (hts (.fieldLink RX0 82 "NestCells" "traces" "I") (by decide +kernel)) (fun _ h9 => h9) rfl (by decide +kernel) rfl rfl (Nat.le_of_ble_eq_true rfl) dX0_forgetTransactions_12 (fun H locs hP hD hS => ?_)
  have hP : va_P (dC, dI) vwCl (wX0 cA h0 q0 q1 q2 q3 q4 q5 w ce nm tl tc tw 0 0 0 wtc wia off) H := hP
  have hD : va_D A (wX0 cA h0 q0 q1 q2 q3 q4 q5 w ce nm tl tc tw 0 0 0 wtc wia off) := hD
  exact kMv_ret hx hb hr hlocks hP hK hD hS dX0_forgetTransactions_15 rfl
set_option maxHeartbeats 4000000 in
set_option maxRecDepth 100000 in
/-- NestCells.openLevel  -/
theorem c_X0_openLevel (l : Launch) (dC : Nat → ClassId) (dI : Nat → Nat → Nat) (cA : ClassId) (h0 q0 q1 q2 q3 q4 q5 : Nat) (w ce nm tl tc tw : Nat → Int32) (T n z : Nat) (wtc wia off : Int32) (name : Int32) (hn : n < 88) : kMv l yX0_openLevel wsX0_openLevel ({ frames := 0, cells := 0, slots := 0, locals := 0 }) dC dI [(cA, .int)] (wX0 cA h0 q0 q1 q2 q3 q4 q5 w ce nm tl tc tw T n z wtc wia off) [.ref h0, .int name] (wX0 cA h0 q0 q1 q2 q3 q4 q5 w ce (upd nm n name) tl tc tw T (n + 1) z wtc wia off) := by
  refine kMv_of (cc := cX0_openLevel) (maxL := 2) (ret := none) (by decide) rfl (Nat.le_of_ble_eq_true rfl) ?_
  intro p e s m below meth c A ls hx hb hml hr hts hown hlocks hA hP hK hD hS hl
  have hin : ∀ w ∈ u_ws RX0 TX0 12, w ∈ wsX0_openLevel := by decide +kernel
  have hl : lv_has ls 2 [(0, .ref h0), (1, .int name)] := hl
  refine lv_aload_n hx hb dX0_openLevel_0 rfl (lv_at hl 0 rfl) ?_
  refine va_get (D := (dC, dI)) (ci := 0) (v := .ref q2) (C := RX0) (T := TX0) (N := 12) hx hb hts hin hown hK hP 0 rfl rfl 2 (by decide) (hts (.fieldLink RX0 16 "NestCells" "levelName" "[I") (by decide +kernel)) (fun _ h9 => h9) rfl dX0_openLevel_1 ?_
  refine lv_aload_n hx hb dX0_openLevel_4 rfl (lv_at hl 0 rfl) ?_
  refine va_get (D := (dC, dI)) (ci := 0) (v := .int (nI n)) (C := RX0) (T := TX0) (N := 12) hx hb hts hin hown hK hP 0 rfl rfl 7 (by decide) (hts (.fieldLink RX0 71 "NestCells" "levels" "I") (by decide +kernel)) (fun _ h9 => h9) rfl dX0_openLevel_5 ?_
  refine lv_iload_n hx hb dX0_openLevel_8 rfl (lv_at hl 1 rfl) ?_
  refine kv_iast hx hb hK hP hD hS 3 0 rfl rfl (by omega) (by omega) dX0_openLevel_9 (fun H locs hP hD hS => ?_)
  have hP : va_P (dC, dI) vwCl (wX0 cA h0 q0 q1 q2 q3 q4 q5 w ce (upd nm n name) tl tc tw T n z wtc wia off) H := hP
  have hD : va_D A (wX0 cA h0 q0 q1 q2 q3 q4 q5 w ce (upd nm n name) tl tc tw T n z wtc wia off) := hD
  refine lv_aload_n hx hb dX0_openLevel_10 rfl (lv_at hl 0 rfl) ?_
  refine lv_dup hx hb dX0_openLevel_11 rfl ?_
  refine va_get (D := (dC, dI)) (ci := 0) (v := .int (nI n)) (C := RX0) (T := TX0) (N := 12) hx hb hts hin hown hK hP 0 rfl rfl 7 (by decide) (hts (.fieldLink RX0 71 "NestCells" "levels" "I") (by decide +kernel)) (fun _ h9 => h9) rfl dX0_openLevel_12 ?_
  refine lv_iconst (v := (nI 1)) hx hb dX0_openLevel_15 (by decide) ?_
  refine kv_addE (d := n + 1) hx hb (by omega) dX0_openLevel_16 ?_
  refine va_put (D := (dC, dI)) (ci := 0) (v := .int (nI (n + 1))) (ty := .int) (C := RX0) (T := TX0) (N := 12) hx hb hts hin tyX0 tyX0_ok nmX0 hown hK hP hD hS 0 rfl rfl 7 (by decide) (hts (.fieldLink RX0 71 "NestCells" "levels" "I") (by decide +kernel)) (fun _ h9 => h9) rfl (by decide +kernel) rfl rfl (Nat.le_of_ble_eq_true rfl) dX0_openLevel_17 (fun H locs hP hD hS => ?_)
  have hP : va_P (dC, dI) vwCl (wX0 cA h0 q0 q1 q2 q3 q4 q5 w ce (upd nm n name) tl tc tw T (n + 1) z wtc wia off) H := hP
  have hD : va_D A (wX0 cA h0 q0 q1 q2 q3 q4 q5 w ce (upd nm n name) tl tc tw T (n + 1) z wtc wia off) := hD
  exact kMv_ret hx hb hr hlocks hP hK hD hS dX0_openLevel_20 rfl
set_option maxHeartbeats 4000000 in
set_option maxRecDepth 100000 in
/-- NestCells.leaveTrace  -/
theorem c_X0_leaveTrace (l : Launch) (dC : Nat → ClassId) (dI : Nat → Nat → Nat) (cA : ClassId) (h0 q0 q1 q2 q3 q4 q5 : Nat) (w ce nm tl tc tw : Nat → Int32) (T n z : Nat) (wtc wia off : Int32) (lev : Nat) (cell : Nat) (hz : z < 60) (hc : cell < 32) : kMv l yX0_leaveTrace wsX0_leaveTrace ({ frames := 0, cells := 0, slots := 0, locals := 0 }) dC dI [(cA, .int)] (wX0 cA h0 q0 q1 q2 q3 q4 q5 w ce nm tl tc tw T n z wtc wia off) [.ref h0, .int (nI lev), .int (nI cell)] (wX0 cA h0 q0 q1 q2 q3 q4 q5 w ce nm (upd tl z (nI lev)) (upd tc z (nI cell)) (upd tw z (ce cell)) T n (z + 1) wtc wia off) := by
  refine kMv_of (cc := cX0_leaveTrace) (maxL := 3) (ret := none) (by decide) rfl (Nat.le_of_ble_eq_true rfl) ?_
  intro p e s m below meth c A ls hx hb hml hr hts hown hlocks hA hP hK hD hS hl
  have hin : ∀ w ∈ u_ws RX0 TX0 12, w ∈ wsX0_leaveTrace := by decide +kernel
  have hl : lv_has ls 3 [(0, .ref h0), (1, .int (nI lev)), (2, .int (nI cell))] := hl
  refine lv_aload_n hx hb dX0_leaveTrace_0 rfl (lv_at hl 0 rfl) ?_
  refine va_get (D := (dC, dI)) (ci := 0) (v := .ref q3) (C := RX0) (T := TX0) (N := 12) hx hb hts hin hown hK hP 0 rfl rfl 3 (by decide) (hts (.fieldLink RX0 19 "NestCells" "traceLevel" "[I") (by decide +kernel)) (fun _ h9 => h9) rfl dX0_leaveTrace_1 ?_
  refine lv_aload_n hx hb dX0_leaveTrace_4 rfl (lv_at hl 0 rfl) ?_
  refine va_get (D := (dC, dI)) (ci := 0) (v := .int (nI z)) (C := RX0) (T := TX0) (N := 12) hx hb hts hin hown hK hP 0 rfl rfl 8 (by decide) (hts (.fieldLink RX0 82 "NestCells" "traces" "I") (by decide +kernel)) (fun _ h9 => h9) rfl dX0_leaveTrace_5 ?_
  refine lv_iload_n hx hb dX0_leaveTrace_8 rfl (lv_at hl 1 rfl) ?_
  refine kv_iast hx hb hK hP hD hS 4 0 rfl rfl (by omega) (by omega) dX0_leaveTrace_9 (fun H locs hP hD hS => ?_)
  have hP : va_P (dC, dI) vwCl (wX0 cA h0 q0 q1 q2 q3 q4 q5 w ce nm (upd tl z (nI lev)) tc tw T n z wtc wia off) H := hP
  have hD : va_D A (wX0 cA h0 q0 q1 q2 q3 q4 q5 w ce nm (upd tl z (nI lev)) tc tw T n z wtc wia off) := hD
  refine lv_aload_n hx hb dX0_leaveTrace_10 rfl (lv_at hl 0 rfl) ?_
  refine va_get (D := (dC, dI)) (ci := 0) (v := .ref q4) (C := RX0) (T := TX0) (N := 12) hx hb hts hin hown hK hP 0 rfl rfl 4 (by decide) (hts (.fieldLink RX0 22 "NestCells" "traceCell" "[I") (by decide +kernel)) (fun _ h9 => h9) rfl dX0_leaveTrace_11 ?_
  refine lv_aload_n hx hb dX0_leaveTrace_14 rfl (lv_at hl 0 rfl) ?_
  refine va_get (D := (dC, dI)) (ci := 0) (v := .int (nI z)) (C := RX0) (T := TX0) (N := 12) hx hb hts hin hown hK hP 0 rfl rfl 8 (by decide) (hts (.fieldLink RX0 82 "NestCells" "traces" "I") (by decide +kernel)) (fun _ h9 => h9) rfl dX0_leaveTrace_15 ?_
  refine lv_iload_n hx hb dX0_leaveTrace_18 rfl (lv_at hl 2 rfl) ?_
  refine kv_iast hx hb hK hP hD hS 5 0 rfl rfl (by omega) (by omega) dX0_leaveTrace_19 (fun H locs hP hD hS => ?_)
  have hP : va_P (dC, dI) vwCl (wX0 cA h0 q0 q1 q2 q3 q4 q5 w ce nm (upd tl z (nI lev)) (upd tc z (nI cell)) tw T n z wtc wia off) H := hP
  have hD : va_D A (wX0 cA h0 q0 q1 q2 q3 q4 q5 w ce nm (upd tl z (nI lev)) (upd tc z (nI cell)) tw T n z wtc wia off) := hD
  refine lv_aload_n hx hb dX0_leaveTrace_20 rfl (lv_at hl 0 rfl) ?_
  refine va_get (D := (dC, dI)) (ci := 0) (v := .ref q5) (C := RX0) (T := TX0) (N := 12) hx hb hts hin hown hK hP 0 rfl rfl 5 (by decide) (hts (.fieldLink RX0 25 "NestCells" "traceWas" "[I") (by decide +kernel)) (fun _ h9 => h9) rfl dX0_leaveTrace_21 ?_
  refine lv_aload_n hx hb dX0_leaveTrace_24 rfl (lv_at hl 0 rfl) ?_
  refine va_get (D := (dC, dI)) (ci := 0) (v := .int (nI z)) (C := RX0) (T := TX0) (N := 12) hx hb hts hin hown hK hP 0 rfl rfl 8 (by decide) (hts (.fieldLink RX0 82 "NestCells" "traces" "I") (by decide +kernel)) (fun _ h9 => h9) rfl dX0_leaveTrace_25 ?_
  refine lv_aload_n hx hb dX0_leaveTrace_28 rfl (lv_at hl 0 rfl) ?_
  refine va_get (D := (dC, dI)) (ci := 0) (v := .ref q1) (C := RX0) (T := TX0) (N := 12) hx hb hts hin hown hK hP 0 rfl rfl 1 (by decide) (hts (.fieldLink RX0 13 "NestCells" "cells" "[I") (by decide +kernel)) (fun _ h9 => h9) rfl dX0_leaveTrace_29 ?_
  refine lv_iload_n hx hb dX0_leaveTrace_32 rfl (lv_at hl 2 rfl) ?_
  refine kv_iald hx hb hK hP 2 0 rfl rfl (by omega) (by omega) dX0_leaveTrace_33 ?_
  refine kv_iast hx hb hK hP hD hS 6 0 rfl rfl (by omega) (by omega) dX0_leaveTrace_34 (fun H locs hP hD hS => ?_)
  have hP : va_P (dC, dI) vwCl (wX0 cA h0 q0 q1 q2 q3 q4 q5 w ce nm (upd tl z (nI lev)) (upd tc z (nI cell)) (upd tw z (ce cell)) T n z wtc wia off) H := hP
  have hD : va_D A (wX0 cA h0 q0 q1 q2 q3 q4 q5 w ce nm (upd tl z (nI lev)) (upd tc z (nI cell)) (upd tw z (ce cell)) T n z wtc wia off) := hD
  refine lv_aload_n hx hb dX0_leaveTrace_35 rfl (lv_at hl 0 rfl) ?_
  refine lv_dup hx hb dX0_leaveTrace_36 rfl ?_
  refine va_get (D := (dC, dI)) (ci := 0) (v := .int (nI z)) (C := RX0) (T := TX0) (N := 12) hx hb hts hin hown hK hP 0 rfl rfl 8 (by decide) (hts (.fieldLink RX0 82 "NestCells" "traces" "I") (by decide +kernel)) (fun _ h9 => h9) rfl dX0_leaveTrace_37 ?_
  refine lv_iconst (v := (nI 1)) hx hb dX0_leaveTrace_40 (by decide) ?_
  refine kv_addE (d := z + 1) hx hb (by omega) dX0_leaveTrace_41 ?_
  refine va_put (D := (dC, dI)) (ci := 0) (v := .int (nI (z + 1))) (ty := .int) (C := RX0) (T := TX0) (N := 12) hx hb hts hin tyX0 tyX0_ok nmX0 hown hK hP hD hS 0 rfl rfl 8 (by decide) (hts (.fieldLink RX0 82 "NestCells" "traces" "I") (by decide +kernel)) (fun _ h9 => h9) rfl (by decide +kernel) rfl rfl (Nat.le_of_ble_eq_true rfl) dX0_leaveTrace_42 (fun H locs hP hD hS => ?_)
  have hP : va_P (dC, dI) vwCl (wX0 cA h0 q0 q1 q2 q3 q4 q5 w ce nm (upd tl z (nI lev)) (upd tc z (nI cell)) (upd tw z (ce cell)) T n (z + 1) wtc wia off) H := hP
  have hD : va_D A (wX0 cA h0 q0 q1 q2 q3 q4 q5 w ce nm (upd tl z (nI lev)) (upd tc z (nI cell)) (upd tw z (ce cell)) T n (z + 1) wtc wia off) := hD
  exact kMv_ret hx hb hr hlocks hP hK hD hS dX0_leaveTrace_45 rfl
set_option maxHeartbeats 4000000 in
set_option maxRecDepth 100000 in
/-- NestCells.crash  -/
theorem c_X0_crash (l : Launch) (dC : Nat → ClassId) (dI : Nat → Nat → Nat) (cA : ClassId) (h0 q0 q1 q2 q3 q4 q5 : Nat) (w ce nm tl tc tw : Nat → Int32) (T n z : Nat) (wtc wia off : Int32) (c1 : Int32)  : kMv l yX0_crash wsX0_crash ({ frames := 0, cells := 0, slots := 0, locals := 0 }) dC dI [(cA, .int)] (wX0 cA h0 q0 q1 q2 q3 q4 q5 w ce nm tl tc tw T n z wtc wia off) [.ref h0, .int c1] (wX0 cA h0 q0 q1 q2 q3 q4 q5 w ce nm tl tc tw T n z (if nI 1 ≤ c1 then c1 else nI 0) wia off) := by
  refine kMv_of (cc := cX0_crash) (maxL := 2) (ret := none) (by decide) rfl (Nat.le_of_ble_eq_true rfl) ?_
  intro p e s m below meth c A ls hx hb hml hr hts hown hlocks hA hP hK hD hS hl
  have hin : ∀ w ∈ u_ws RX0 TX0 12, w ∈ wsX0_crash := by decide +kernel
  have hl : lv_has ls 2 [(0, .ref h0), (1, .int c1)] := hl
  refine lv_aload_n hx hb dX0_crash_0 rfl (lv_at hl 0 rfl) ?_
  refine lv_iload_n hx hb dX0_crash_1 rfl (lv_at hl 1 rfl) ?_
  refine lv_iconst (v := (nI 1)) hx hb dX0_crash_2 (by decide) ?_
  refine lv_icmp_ge (tgt := 10) hx hb dX0_crash_3 (by decide) (fun h3_0 => ?_) (fun h3_0 => ?_)
  · skip
    refine lv_iload_n hx hb dX0_crash_10 rfl (lv_at hl 1 rfl) ?_
    refine va_put (D := (dC, dI)) (ci := 0) (v := .int c1) (ty := .int) (C := RX0) (T := TX0) (N := 12) hx hb hts hin tyX0 tyX0_ok nmX0 hown hK hP hD hS 0 rfl rfl 9 (by decide) (hts (.fieldLink RX0 37 "NestCells" "writesTillCrash" "I") (by decide +kernel)) (fun _ h9 => h9) rfl (by decide +kernel) rfl rfl (Nat.le_of_ble_eq_true rfl) dX0_crash_11 (fun H locs hP hD hS => ?_)
    have hP : va_P (dC, dI) vwCl (wX0 cA h0 q0 q1 q2 q3 q4 q5 w ce nm tl tc tw T n z c1 wia off) H := hP
    have hD : va_D A (wX0 cA h0 q0 q1 q2 q3 q4 q5 w ce nm tl tc tw T n z c1 wia off) := hD
    exact kMv_ret hx hb hr hlocks hP hK hD hS dX0_crash_14 (by simp [h3_0])
  · skip
    refine lv_iconst (v := (nI 0)) hx hb dX0_crash_6 (by decide) ?_
    refine lv_goto (tgt := 11) hx hb dX0_crash_7 (by decide) ?_
    refine va_put (D := (dC, dI)) (ci := 0) (v := .int (nI 0)) (ty := .int) (C := RX0) (T := TX0) (N := 12) hx hb hts hin tyX0 tyX0_ok nmX0 hown hK hP hD hS 0 rfl rfl 9 (by decide) (hts (.fieldLink RX0 37 "NestCells" "writesTillCrash" "I") (by decide +kernel)) (fun _ h9 => h9) rfl (by decide +kernel) rfl rfl (Nat.le_of_ble_eq_true rfl) dX0_crash_11 (fun H locs hP hD hS => ?_)
    have hP : va_P (dC, dI) vwCl (wX0 cA h0 q0 q1 q2 q3 q4 q5 w ce nm tl tc tw T n z (nI 0) wia off) H := hP
    have hD : va_D A (wX0 cA h0 q0 q1 q2 q3 q4 q5 w ce nm tl tc tw T n z (nI 0) wia off) := hD
    exact kMv_ret hx hb hr hlocks hP hK hD hS dX0_crash_14 (by simp [h3_0])
set_option maxHeartbeats 4000000 in
set_option maxRecDepth 100000 in
/-- NestCells.innermostLevel  -/
theorem c_X0_innermostLevel (l : Launch) (dC : Nat → ClassId) (dI : Nat → Nat → Nat) (cA : ClassId) (h0 q0 q1 q2 q3 q4 q5 : Nat) (w ce nm tl tc tw : Nat → Int32) (T n z : Nat) (wtc wia off : Int32)  (hn : n ≤ 88) : kMi l yX0_innermostLevel wsX0_innermostLevel ({ frames := 0, cells := 0, slots := 0, locals := 0 }) dC dI [(cA, .int)] (wX0 cA h0 q0 q1 q2 q3 q4 q5 w ce nm tl tc tw T n z wtc wia off) [.ref h0] (nI (kx_inn nm n) - nI 1) (wX0 cA h0 q0 q1 q2 q3 q4 q5 w ce nm tl tc tw T n z wtc wia off) := by
  refine kMi_of (cc := cX0_innermostLevel) (maxL := 2) (ret := (some .int)) (by decide) rfl (Nat.le_of_ble_eq_true rfl) ?_
  intro p e s m below meth c A ls hx hb hml hr hts hown hlocks hA hP hK hD hS hl
  have hin : ∀ w ∈ u_ws RX0 TX0 12, w ∈ wsX0_innermostLevel := by decide +kernel
  have hl : lv_has ls 2 [(0, .ref h0)] := hl
  refine lv_aload_n hx hb dX0_innermostLevel_0 rfl (lv_at hl 0 rfl) ?_
  refine va_get (D := (dC, dI)) (ci := 0) (v := .int (nI n)) (C := RX0) (T := TX0) (N := 12) hx hb hts hin hown hK hP 0 rfl rfl 7 (by decide) (hts (.fieldLink RX0 71 "NestCells" "levels" "I") (by decide +kernel)) (fun _ h9 => h9) rfl dX0_innermostLevel_1 ?_
  refine lv_iconst (v := (nI 1)) hx hb dX0_innermostLevel_4 (by decide) ?_
  refine lv_isub hx hb dX0_innermostLevel_5 ?_
  refine lv_istore_n (lv' := [(1, .int ((nI n) - (nI 1))), (0, .ref h0)]) hx hb dX0_innermostLevel_6 rfl hl (by decide) rfl (fun ls hl => ?_)
  have lp : ∀ (k : Nat), ∀ (_ : k ≤ n), ∀ (_ : kx_inn nm k = kx_inn nm n), ∀ (H : Heap) (locs : List Loc) (ls : Array Slot), va_P (dC, dI) vwCl (wX0 cA h0 q0 q1 q2 q3 q4 q5 w ce nm tl tc tw T n z wtc wia off) H → va_D A (wX0 cA h0 q0 q1 q2 q3 q4 q5 w ce nm tl tc tw T n z wtc wia off) → va_S A s.heap H locs → lv_has ls 2 [(0, .ref h0), (1, .int (nI k - nI 1))] → W p l e (headSpec wsX0_innermostLevel ({ frames := 0, cells := 0, slots := 0, locals := 0 })).room s m ([.ref h0] : List Value).toArray below meth c H locs 0 0 (MQ below (va_Qi (fun (r' : Int32) (_ : Unit) => r' = (nI (kx_inn nm n) - nI 1)) (kB dC dI [(cA, .int)] (wX0 cA h0 q0 q1 q2 q3 q4 q5 w ce nm tl tc tw T n z wtc wia off) A) A) ([.ref h0] : List Value).toArray s 0 0 A) (F0 m 7 ls []) := by
    intro k
    induction k with
    | zero =>
      intro  hk he H locs ls hP hD hS hl
      refine lv_iload_n hx hb dX0_innermostLevel_7 rfl (lv_at hl 1 rfl) ?_
      refine lv_if_lt (tgt := 27) hx hb dX0_innermostLevel_8 (by decide) (fun h8_0 => ?_) (fun h8_0 => ( h8_0 (by decide)).elim)
      refine lv_iload_n hx hb dX0_innermostLevel_27 rfl (lv_at hl 1 rfl) ?_
      exact kMi_ret hx hb hr hlocks hP hK hD hS dX0_innermostLevel_28 (by rw [← he]; rfl) rfl
    | succ k ih =>
      intro  hk he H locs ls hP hD hS hl
      have hl : lv_has ls 2 [(0, .ref h0), (1, .int (nI k))] := by rw [← kv_pred k]; exact hl
      refine lv_iload_n hx hb dX0_innermostLevel_7 rfl (lv_at hl 1 rfl) ?_
      refine kv_if_lt (tgt := 27) hx hb (by omega) dX0_innermostLevel_8 (by decide) ?_
      refine lv_aload_n hx hb dX0_innermostLevel_11 rfl (lv_at hl 0 rfl) ?_
      refine va_get (D := (dC, dI)) (ci := 0) (v := .ref q2) (C := RX0) (T := TX0) (N := 12) hx hb hts hin hown hK hP 0 rfl rfl 2 (by decide) (hts (.fieldLink RX0 16 "NestCells" "levelName" "[I") (by decide +kernel)) (fun _ h9 => h9) rfl dX0_innermostLevel_12 ?_
      refine lv_iload_n hx hb dX0_innermostLevel_15 rfl (lv_at hl 1 rfl) ?_
      refine kv_iald hx hb hK hP 3 0 rfl rfl (by omega) (by omega) dX0_innermostLevel_16 ?_
      refine lv_iconst (v := (-1)) hx hb dX0_innermostLevel_17 (by decide) ?_
      refine lv_icmp_eq (tgt := 27) hx hb dX0_innermostLevel_18 (by decide) (fun h18_0 => ?_) (fun h18_0 => ?_)
      · skip
        refine lv_iload_n hx hb dX0_innermostLevel_27 rfl (lv_at hl 1 rfl) ?_
        exact kMi_ret hx hb hr hlocks hP hK hD hS dX0_innermostLevel_28 (by rw [← he, kx_inn, if_pos h18_0, kv_pred]) rfl
      · skip
        refine lv_iinc (v := ((nI k) - nI 1)) (lv' := [(1, .int ((nI k) - nI 1)), (0, .ref h0)]) hx hb dX0_innermostLevel_21 hl (k := 1) rfl (kv_decr _) (by decide) rfl (fun ls hl => ?_)
        refine lv_goto (tgt := 7) hx hb dX0_innermostLevel_24 (by decide) ?_
        exact ih (by omega) (by rw [← he, kx_inn, if_neg h18_0]) _ _ _ hP hD hS (lv_sub hl [1, 0] rfl)
  exact lp n  (Nat.le_refl _) rfl _ _ _ hP hD hS (lv_sub hl [1, 0] rfl)
set_option maxHeartbeats 4000000 in
set_option maxRecDepth 100000 in
/-- NestCells.points  -/
theorem c_X0_points (l : Launch) (dC : Nat → ClassId) (dI : Nat → Nat → Nat) (cA : ClassId) (h0 q0 q1 q2 q3 q4 q5 : Nat) (w ce nm tl tc tw : Nat → Int32) (T n z : Nat) (wtc wia off : Int32)  (hn : n ≤ 88) : kMi l yX0_points wsX0_points ({ frames := 1, cells := 0, slots := 0, locals := 21 }) dC dI [(cA, .int)] (wX0 cA h0 q0 q1 q2 q3 q4 q5 w ce nm tl tc tw T n z wtc wia off) [.ref h0] (nI (n - kx_inn nm n)) (wX0 cA h0 q0 q1 q2 q3 q4 q5 w ce nm tl tc tw T n z wtc wia off) := by
  refine kMi_of (cc := cX0_points) (maxL := 1) (ret := (some .int)) (by decide) rfl (Nat.le_of_ble_eq_true rfl) ?_
  intro p e s m below meth c A ls hx hb hml hr hts hown hlocks hA hP hK hD hS hl
  have hin : ∀ w ∈ u_ws RX0 TX0 12, w ∈ wsX0_points := by decide +kernel
  have hl : lv_has ls 1 [(0, .ref h0)] := hl
  refine lv_aload_n hx hb dX0_points_0 rfl (lv_at hl 0 rfl) ?_
  refine va_get (D := (dC, dI)) (ci := 0) (v := .int (nI n)) (C := RX0) (T := TX0) (N := 12) hx hb hts hin hown hK hP 0 rfl rfl 7 (by decide) (hts (.fieldLink RX0 71 "NestCells" "levels" "I") (by decide +kernel)) (fun _ h9 => h9) rfl dX0_points_1 ?_
  refine lv_iconst (v := (nI 1)) hx hb dX0_points_4 (by decide) ?_
  refine lv_isub hx hb dX0_points_5 ?_
  refine lv_aload_n hx hb dX0_points_6 rfl (lv_at hl 0 rfl) ?_
  refine kv_Vi (Xr := []) (n := 0) (c_X0_innermostLevel l dC dI cA h0 q0 q1 q2 q3 q4 q5 w ce nm tl tc tw T n z wtc wia off  (by omega)) hx hb hml hown hts gX0_points_X0_innermostLevel rfl ⟨rfl, rfl⟩ (by decide +kernel) rfl ⟨Nat.le_of_ble_eq_true rfl, Nat.le_of_ble_eq_true rfl⟩ hK hP hD hS hA [0] [0, 1, 2, 3, 4, 5, 6] [] rfl rfl rfl (by decide) (by decide) (q0 := 0) rfl rfl rfl (by decide) hl.1 rfl (Nat.le_of_ble_eq_true rfl) dX0_points_7 ⟨Nat.zero_le _, Nat.zero_le _⟩ (fun H locs hP hD hS => ?_)
  have hP : va_P (dC, dI) vwCl (wX0 cA h0 q0 q1 q2 q3 q4 q5 w ce nm tl tc tw T n z wtc wia off) H := hP
  have hD : va_D A (wX0 cA h0 q0 q1 q2 q3 q4 q5 w ce nm tl tc tw T n z wtc wia off) := hD
  refine lv_isub hx hb dX0_points_10 ?_
  exact kMi_ret hx hb hr hlocks hP hK hD hS dX0_points_11 (kv_m1sub (kx_inn_le nm n)) rfl
set_option maxHeartbeats 4000000 in
set_option maxRecDepth 100000 in
/-- NestCells.pointLevel  -/
theorem c_X0_pointLevel (l : Launch) (dC : Nat → ClassId) (dI : Nat → Nat → Nat) (cA : ClassId) (h0 q0 q1 q2 q3 q4 q5 : Nat) (w ce nm tl tc tw : Nat → Int32) (T n z : Nat) (wtc wia off : Int32) (name : Int32) (hn : n ≤ 88) : kMi l yX0_pointLevel wsX0_pointLevel ({ frames := 1, cells := 0, slots := 0, locals := 21 }) dC dI [(cA, .int)] (wX0 cA h0 q0 q1 q2 q3 q4 q5 w ce nm tl tc tw T n z wtc wia off) [.ref h0, .int name] (nI (kx_pl nm name (kx_inn nm n) n) - nI 1) (wX0 cA h0 q0 q1 q2 q3 q4 q5 w ce nm tl tc tw T n z wtc wia off) := by
  refine kMi_of (cc := cX0_pointLevel) (maxL := 4) (ret := (some .int)) (by decide) rfl (Nat.le_of_ble_eq_true rfl) ?_
  intro p e s m below meth c A ls hx hb hml hr hts hown hlocks hA hP hK hD hS hl
  have hin : ∀ w ∈ u_ws RX0 TX0 12, w ∈ wsX0_pointLevel := by decide +kernel
  have hl : lv_has ls 4 [(0, .ref h0), (1, .int name)] := hl
  refine lv_aload_n hx hb dX0_pointLevel_0 rfl (lv_at hl 0 rfl) ?_
  refine kv_Vi (Xr := []) (n := 0) (c_X0_innermostLevel l dC dI cA h0 q0 q1 q2 q3 q4 q5 w ce nm tl tc tw T n z wtc wia off  (by omega)) hx hb hml hown hts gX0_pointLevel_X0_innermostLevel rfl ⟨rfl, rfl⟩ (by decide +kernel) rfl ⟨Nat.le_of_ble_eq_true rfl, Nat.le_of_ble_eq_true rfl⟩ hK hP hD hS hA [0] [0, 1, 2, 3, 4, 5, 6] [] rfl rfl rfl (by decide) (by decide) (q0 := 0) rfl rfl rfl (by decide) hl.1 rfl (Nat.le_of_ble_eq_true rfl) dX0_pointLevel_1 ⟨Nat.zero_le _, Nat.zero_le _⟩ (fun H locs hP hD hS => ?_)
  have hP : va_P (dC, dI) vwCl (wX0 cA h0 q0 q1 q2 q3 q4 q5 w ce nm tl tc tw T n z wtc wia off) H := hP
  have hD : va_D A (wX0 cA h0 q0 q1 q2 q3 q4 q5 w ce nm tl tc tw T n z wtc wia off) := hD
  refine lv_istore_n (lv' := [(2, .int (nI (kx_inn nm n) - nI 1)), (0, .ref h0), (1, .int name)]) hx hb dX0_pointLevel_4 rfl hl (by decide) rfl (fun ls hl => ?_)
  refine lv_aload_n hx hb dX0_pointLevel_5 rfl (lv_at hl 1 rfl) ?_
  refine va_get (D := (dC, dI)) (ci := 0) (v := .int (nI n)) (C := RX0) (T := TX0) (N := 12) hx hb hts hin hown hK hP 0 rfl rfl 7 (by decide) (hts (.fieldLink RX0 71 "NestCells" "levels" "I") (by decide +kernel)) (fun _ h9 => h9) rfl dX0_pointLevel_6 ?_
  refine lv_iconst (v := (nI 1)) hx hb dX0_pointLevel_9 (by decide) ?_
  refine lv_isub hx hb dX0_pointLevel_10 ?_
  refine lv_istore_n (lv' := [(3, .int ((nI n) - (nI 1))), (2, .int (nI (kx_inn nm n) - nI 1)), (0, .ref h0), (1, .int name)]) hx hb dX0_pointLevel_11 rfl hl (by decide) rfl (fun ls hl => ?_)
  have hj := kx_inn_le nm n
  have lp : ∀ (k : Nat), ∀ (_ : k ≤ n), ∀ (_ : kx_pl nm name (kx_inn nm n) k = kx_pl nm name (kx_inn nm n) n), ∀ (H : Heap) (locs : List Loc) (ls : Array Slot), va_P (dC, dI) vwCl (wX0 cA h0 q0 q1 q2 q3 q4 q5 w ce nm tl tc tw T n z wtc wia off) H → va_D A (wX0 cA h0 q0 q1 q2 q3 q4 q5 w ce nm tl tc tw T n z wtc wia off) → va_S A s.heap H locs → lv_has ls 4 [(0, .ref h0), (1, .int name), (2, .int (nI (kx_inn nm n) - nI 1)), (3, .int (nI k - nI 1))] → W p l e (headSpec wsX0_pointLevel ({ frames := 1, cells := 0, slots := 0, locals := 21 })).room s m ([.ref h0, .int name] : List Value).toArray below meth c H locs 0 0 (MQ below (va_Qi (fun (r' : Int32) (_ : Unit) => r' = (nI (kx_pl nm name (kx_inn nm n) n) - nI 1)) (kB dC dI [(cA, .int)] (wX0 cA h0 q0 q1 q2 q3 q4 q5 w ce nm tl tc tw T n z wtc wia off) A) A) ([.ref h0, .int name] : List Value).toArray s 0 0 A) (F0 m 12 ls []) := by
    intro k
    induction k with
    | zero =>
      intro  hk he H locs ls hP hD hS hl
      refine lv_iload_n hx hb dX0_pointLevel_12 rfl (lv_at hl 3 rfl) ?_
      refine lv_iload_n hx hb dX0_pointLevel_13 rfl (lv_at hl 2 rfl) ?_
      refine lv_icmp_le (tgt := 35) hx hb dX0_pointLevel_14 (by decide) (fun h14_0 => ?_) (fun h14_0 => ( h14_0 ((kv_m1le (by omega) (by omega)).mpr (Nat.zero_le _))).elim)
      refine lv_iconst (v := (-1)) hx hb dX0_pointLevel_35 (by decide) ?_
      exact kMi_ret hx hb hr hlocks hP hK hD hS dX0_pointLevel_36 (by rw [← he]; rfl) rfl
    | succ k ih =>
      intro  hk he H locs ls hP hD hS hl
      refine lv_iload_n hx hb dX0_pointLevel_12 rfl (lv_at hl 3 rfl) ?_
      refine lv_iload_n hx hb dX0_pointLevel_13 rfl (lv_at hl 2 rfl) ?_
      refine lv_icmp_le (tgt := 35) hx hb dX0_pointLevel_14 (by decide) (fun h14_0 => ?_) (fun h14_0 => ?_)
      · skip
        refine lv_iconst (v := (-1)) hx hb dX0_pointLevel_35 (by decide) ?_
        exact kMi_ret hx hb hr hlocks hP hK hD hS dX0_pointLevel_36 (by rw [← he, kx_pl, if_pos ((kv_m1le (by omega) (by omega)).mp h14_0)]; rfl) rfl
      · skip
        have hkj : ¬ k + 1 ≤ kx_inn nm n := fun q => h14_0 ((kv_m1le (by omega) (by omega)).mpr q)
        have hl : lv_has ls 4 [(0, .ref h0), (1, .int name), (2, .int (nI (kx_inn nm n) - nI 1)), (3, .int (nI k))] := by rw [← kv_pred k]; exact hl
        refine lv_aload_n hx hb dX0_pointLevel_17 rfl (lv_at hl 0 rfl) ?_
        refine va_get (D := (dC, dI)) (ci := 0) (v := .ref q2) (C := RX0) (T := TX0) (N := 12) hx hb hts hin hown hK hP 0 rfl rfl 2 (by decide) (hts (.fieldLink RX0 16 "NestCells" "levelName" "[I") (by decide +kernel)) (fun _ h9 => h9) rfl dX0_pointLevel_18 ?_
        refine lv_iload_n hx hb dX0_pointLevel_21 rfl (lv_at hl 3 rfl) ?_
        refine kv_iald hx hb hK hP 3 0 rfl rfl (by omega) (by omega) dX0_pointLevel_22 ?_
        refine lv_iload_n hx hb dX0_pointLevel_23 rfl (lv_at hl 1 rfl) ?_
        refine lv_icmp_ne (tgt := 29) hx hb dX0_pointLevel_24 (by decide) (fun h24_1 => ?_) (fun h24_1 => ?_)
        · skip
          refine lv_iinc (v := ((nI k) - nI 1)) (lv' := [(3, .int ((nI k) - nI 1)), (0, .ref h0), (1, .int name), (2, .int (nI (kx_inn nm n) - nI 1))]) hx hb dX0_pointLevel_29 hl (k := 3) rfl (kv_decr _) (by decide) rfl (fun ls hl => ?_)
          refine lv_goto (tgt := 12) hx hb dX0_pointLevel_32 (by decide) ?_
          exact ih (by omega) (by rw [← he, kx_pl, if_neg hkj, if_neg h24_1]) _ _ _ hP hD hS (lv_sub hl [1, 2, 3, 0] rfl)
        · skip
          refine lv_iload_n hx hb dX0_pointLevel_27 rfl (lv_at hl 3 rfl) ?_
          exact kMi_ret hx hb hr hlocks hP hK hD hS dX0_pointLevel_28 (by rw [← he, kx_pl, if_neg hkj, if_pos h24_1, kv_pred]) rfl
  exact lp n  (Nat.le_refl _) rfl _ _ _ hP hD hS (lv_sub hl [2, 3, 1, 0] rfl)
set_option maxHeartbeats 4000000 in
set_option maxRecDepth 100000 in
/-- NestCells.tracedCells  -/
theorem c_X0_tracedCells (l : Launch) (dC : Nat → ClassId) (dI : Nat → Nat → Nat) (cA : ClassId) (h0 q0 q1 q2 q3 q4 q5 : Nat) (w ce nm tl tc tw : Nat → Int32) (T n z : Nat) (wtc wia off : Int32) (lev : Int32) (hz : z ≤ 60) : kMi l yX0_tracedCells wsX0_tracedCells ({ frames := 0, cells := 0, slots := 0, locals := 0 }) dC dI [(cA, .int)] (wX0 cA h0 q0 q1 q2 q3 q4 q5 w ce nm tl tc tw T n z wtc wia off) [.ref h0, .int lev] (kx_tc tl tc lev z) (wX0 cA h0 q0 q1 q2 q3 q4 q5 w ce nm tl tc tw T n z wtc wia off) := by
  refine kMi_of (cc := cX0_tracedCells) (maxL := 4) (ret := (some .int)) (by decide) rfl (Nat.le_of_ble_eq_true rfl) ?_
  intro p e s m below meth c A ls hx hb hml hr hts hown hlocks hA hP hK hD hS hl
  have hin : ∀ w ∈ u_ws RX0 TX0 12, w ∈ wsX0_tracedCells := by decide +kernel
  have hl : lv_has ls 4 [(0, .ref h0), (1, .int lev)] := hl
  refine lv_iconst (v := (nI 0)) hx hb dX0_tracedCells_0 (by decide) ?_
  refine lv_istore_n (lv' := [(2, .int (nI 0)), (0, .ref h0), (1, .int lev)]) hx hb dX0_tracedCells_1 rfl hl (by decide) rfl (fun ls hl => ?_)
  refine lv_iconst (v := (nI 0)) hx hb dX0_tracedCells_2 (by decide) ?_
  refine lv_istore_n (lv' := [(3, .int (nI 0)), (2, .int (nI 0)), (0, .ref h0), (1, .int lev)]) hx hb dX0_tracedCells_3 rfl hl (by decide) rfl (fun ls hl => ?_)
  have lp : ∀ (k : Nat) (t : Nat), ∀ (_ : t + k = z), ∀ (H : Heap) (locs : List Loc) (ls : Array Slot), va_P (dC, dI) vwCl (wX0 cA h0 q0 q1 q2 q3 q4 q5 w ce nm tl tc tw T n z wtc wia off) H → va_D A (wX0 cA h0 q0 q1 q2 q3 q4 q5 w ce nm tl tc tw T n z wtc wia off) → va_S A s.heap H locs → lv_has ls 4 [(0, .ref h0), (1, .int lev), (2, .int (kx_tc tl tc lev t)), (3, .int (nI t))] → W p l e (headSpec wsX0_tracedCells ({ frames := 0, cells := 0, slots := 0, locals := 0 })).room s m ([.ref h0, .int lev] : List Value).toArray below meth c H locs 0 0 (MQ below (va_Qi (fun (r' : Int32) (_ : Unit) => r' = (kx_tc tl tc lev z)) (kB dC dI [(cA, .int)] (wX0 cA h0 q0 q1 q2 q3 q4 q5 w ce nm tl tc tw T n z wtc wia off) A) A) ([.ref h0, .int lev] : List Value).toArray s 0 0 A) (F0 m 4 ls []) := by
    intro k
    induction k with
    | zero =>
      intro t ht H locs ls hP hD hS hl
      refine lv_iload_n hx hb dX0_tracedCells_4 rfl (lv_at hl 3 rfl) ?_
      refine lv_aload_n hx hb dX0_tracedCells_5 rfl (lv_at hl 0 rfl) ?_
      refine va_get (D := (dC, dI)) (ci := 0) (v := .int (nI z)) (C := RX0) (T := TX0) (N := 12) hx hb hts hin hown hK hP 0 rfl rfl 8 (by decide) (hts (.fieldLink RX0 82 "NestCells" "traces" "I") (by decide +kernel)) (fun _ h9 => h9) rfl dX0_tracedCells_6 ?_
      refine kv_ge (tgt := 39) hx hb (by omega) (by omega) dX0_tracedCells_9 (by decide) (fun h9_0 => ?_) (fun h9_0 => absurd h9_0 (by omega))
      refine lv_iload_n hx hb dX0_tracedCells_39 rfl (lv_at hl 2 rfl) ?_
      exact kMi_ret hx hb hr hlocks hP hK hD hS dX0_tracedCells_40 (by rw [show t = z by omega]) rfl
    | succ k ih =>
      intro t ht H locs ls hP hD hS hl
      refine lv_iload_n hx hb dX0_tracedCells_4 rfl (lv_at hl 3 rfl) ?_
      refine lv_aload_n hx hb dX0_tracedCells_5 rfl (lv_at hl 0 rfl) ?_
      refine va_get (D := (dC, dI)) (ci := 0) (v := .int (nI z)) (C := RX0) (T := TX0) (N := 12) hx hb hts hin hown hK hP 0 rfl rfl 8 (by decide) (hts (.fieldLink RX0 82 "NestCells" "traces" "I") (by decide +kernel)) (fun _ h9 => h9) rfl dX0_tracedCells_6 ?_
      refine kv_ge (tgt := 39) hx hb (by omega) (by omega) dX0_tracedCells_9 (by decide) (fun h9_0 => absurd h9_0 (by omega)) (fun h9_0 => ?_)
      refine lv_aload_n hx hb dX0_tracedCells_12 rfl (lv_at hl 0 rfl) ?_
      refine va_get (D := (dC, dI)) (ci := 0) (v := .ref q3) (C := RX0) (T := TX0) (N := 12) hx hb hts hin hown hK hP 0 rfl rfl 3 (by decide) (hts (.fieldLink RX0 19 "NestCells" "traceLevel" "[I") (by decide +kernel)) (fun _ h9 => h9) rfl dX0_tracedCells_13 ?_
      refine lv_iload_n hx hb dX0_tracedCells_16 rfl (lv_at hl 3 rfl) ?_
      refine kv_iald hx hb hK hP 4 0 rfl rfl (by omega) (by omega) dX0_tracedCells_17 ?_
      refine lv_iload_n hx hb dX0_tracedCells_18 rfl (lv_at hl 1 rfl) ?_
      refine lv_icmp_ne (tgt := 33) hx hb dX0_tracedCells_19 (by decide) (fun h19_0 => ?_) (fun h19_0 => ?_)
      · skip
        refine lv_iinc (v := (nI (t + 1))) (lv' := [(3, .int (nI (t + 1))), (0, .ref h0), (1, .int lev), (2, .int (kx_tc tl tc lev t))]) hx hb dX0_tracedCells_33 hl (k := 3) rfl (kv_inc _ 1 (by decide)) (by decide) rfl (fun ls hl => ?_)
        refine lv_goto (tgt := 4) hx hb dX0_tracedCells_36 (by decide) ?_
        have hl : lv_has ls 4 [(3, .int (nI (t + 1))), (0, .ref h0), (1, .int lev), (2, .int (kx_tc tl tc lev (t + 1)))] := by rw [kx_tc, if_neg h19_0]; exact hl
        exact ih (t + 1) (by omega) _ _ _ hP hD hS (lv_sub hl [1, 2, 3, 0] rfl)
      · skip
        refine lv_iload_n hx hb dX0_tracedCells_22 rfl (lv_at hl 2 rfl) ?_
        refine lv_iconst (v := (nI 1)) hx hb dX0_tracedCells_23 (by decide) ?_
        refine lv_aload_n hx hb dX0_tracedCells_24 rfl (lv_at hl 0 rfl) ?_
        refine va_get (D := (dC, dI)) (ci := 0) (v := .ref q4) (C := RX0) (T := TX0) (N := 12) hx hb hts hin hown hK hP 0 rfl rfl 4 (by decide) (hts (.fieldLink RX0 22 "NestCells" "traceCell" "[I") (by decide +kernel)) (fun _ h9 => h9) rfl dX0_tracedCells_25 ?_
        refine lv_iload_n hx hb dX0_tracedCells_28 rfl (lv_at hl 3 rfl) ?_
        refine kv_iald hx hb hK hP 5 0 rfl rfl (by omega) (by omega) dX0_tracedCells_29 ?_
        refine lv_ishl hx hb dX0_tracedCells_30 ?_
        refine lv_ior hx hb dX0_tracedCells_31 ?_
        refine lv_istore_n (lv' := [(2, .int ((kx_tc tl tc lev t) ||| ((nI 1) <<< ((tc t) &&& 31)))), (0, .ref h0), (1, .int lev), (3, .int (nI t))]) hx hb dX0_tracedCells_32 rfl hl (by decide) rfl (fun ls hl => ?_)
        refine lv_iinc (v := (nI (t + 1))) (lv' := [(3, .int (nI (t + 1))), (2, .int ((kx_tc tl tc lev t) ||| ((nI 1) <<< ((tc t) &&& 31)))), (0, .ref h0), (1, .int lev)]) hx hb dX0_tracedCells_33 hl (k := 3) rfl (kv_inc _ 1 (by decide)) (by decide) rfl (fun ls hl => ?_)
        refine lv_goto (tgt := 4) hx hb dX0_tracedCells_36 (by decide) ?_
        have hl : lv_has ls 4 [(3, .int (nI (t + 1))), (2, .int (kx_tc tl tc lev (t + 1))), (0, .ref h0), (1, .int lev)] := by rw [kx_tc, if_pos h19_0]; exact hl
        exact ih (t + 1) (by omega) _ _ _ hP hD hS (lv_sub hl [2, 3, 1, 0] rfl)
  exact lp z 0 (by omega) _ _ _ hP hD hS (lv_sub hl [2, 3, 1, 0] rfl)
end
section
set_option maxHeartbeats 4000000 in
set_option maxRecDepth 100000 in
/-- J6.bitCount_0f7a4  -/
theorem c_J6_bitCount_0f7a4 (l : Launch) (dC : Nat → ClassId) (dI : Nat → Nat → Nat)  (x : Int32)  : kMi l yJ6_bitCount_0f7a4 wsJ6_bitCount_0f7a4 ({ frames := 0, cells := 0, slots := 0, locals := 0 }) dC dI [] [] [.int x] (kx_bc x) [] := by
  refine kMi_of (cc := cJ6_bitCount_0f7a4) (maxL := 1) (ret := (some .int)) (by decide) rfl (Nat.le_of_ble_eq_true rfl) ?_
  intro p e s m below meth c A ls hx hb hml hr hts hown hlocks hA hP hK hD hS hl
  have hl : lv_has ls 1 [(0, .int x)] := hl
  refine lv_iload_n hx hb dJ6_bitCount_0f7a4_0 rfl (lv_at hl 0 rfl) ?_
  refine lv_iload_n hx hb dJ6_bitCount_0f7a4_1 rfl (lv_at hl 0 rfl) ?_
  refine lv_iconst (v := (nI 1)) hx hb dJ6_bitCount_0f7a4_2 (by decide) ?_
  refine lv_iushr (v := (x.toUInt32 >>> ((nI 1).toUInt32 &&& Int32.toUInt32 31)).toInt32) hx hb dJ6_bitCount_0f7a4_3 rfl ?_
  refine lv_ldcw (own := RJ6) (v := 1431655765) hx hb hown (hts (.constant RJ6 265 (1431655765)) (by decide +kernel)) dJ6_bitCount_0f7a4_4 ?_
  refine lv_iand hx hb dJ6_bitCount_0f7a4_7 ?_
  refine lv_isub hx hb dJ6_bitCount_0f7a4_8 ?_
  refine lv_topi (fun a1 ea1 => ?_)
  refine lv_istore_n (lv' := [(0, .int a1)]) hx hb dJ6_bitCount_0f7a4_9 rfl hl (by decide) rfl (fun ls hl => ?_)
  refine lv_iload_n hx hb dJ6_bitCount_0f7a4_10 rfl (lv_at hl 0 rfl) ?_
  refine lv_ldcw (own := RJ6) (v := 858993459) hx hb hown (hts (.constant RJ6 266 (858993459)) (by decide +kernel)) dJ6_bitCount_0f7a4_11 ?_
  refine lv_iand hx hb dJ6_bitCount_0f7a4_14 ?_
  refine lv_iload_n hx hb dJ6_bitCount_0f7a4_15 rfl (lv_at hl 0 rfl) ?_
  refine lv_iconst (v := (nI 2)) hx hb dJ6_bitCount_0f7a4_16 (by decide) ?_
  refine lv_iushr (v := (a1.toUInt32 >>> ((nI 2).toUInt32 &&& Int32.toUInt32 31)).toInt32) hx hb dJ6_bitCount_0f7a4_17 rfl ?_
  refine lv_ldcw (own := RJ6) (v := 858993459) hx hb hown (hts (.constant RJ6 266 (858993459)) (by decide +kernel)) dJ6_bitCount_0f7a4_18 ?_
  refine lv_iand hx hb dJ6_bitCount_0f7a4_21 ?_
  refine lv_iadd hx hb dJ6_bitCount_0f7a4_22 ?_
  refine lv_topi (fun a2 ea2 => ?_)
  refine lv_istore_n (lv' := [(0, .int a2)]) hx hb dJ6_bitCount_0f7a4_23 rfl hl (by decide) rfl (fun ls hl => ?_)
  refine lv_iload_n hx hb dJ6_bitCount_0f7a4_24 rfl (lv_at hl 0 rfl) ?_
  refine lv_iload_n hx hb dJ6_bitCount_0f7a4_25 rfl (lv_at hl 0 rfl) ?_
  refine lv_iconst (v := (nI 4)) hx hb dJ6_bitCount_0f7a4_26 (by decide) ?_
  refine lv_iushr (v := (a2.toUInt32 >>> ((nI 4).toUInt32 &&& Int32.toUInt32 31)).toInt32) hx hb dJ6_bitCount_0f7a4_27 rfl ?_
  refine lv_iadd hx hb dJ6_bitCount_0f7a4_28 ?_
  refine lv_ldcw (own := RJ6) (v := 252645135) hx hb hown (hts (.constant RJ6 267 (252645135)) (by decide +kernel)) dJ6_bitCount_0f7a4_29 ?_
  refine lv_iand hx hb dJ6_bitCount_0f7a4_32 ?_
  refine lv_topi (fun a3 ea3 => ?_)
  refine lv_istore_n (lv' := [(0, .int a3)]) hx hb dJ6_bitCount_0f7a4_33 rfl hl (by decide) rfl (fun ls hl => ?_)
  refine lv_iload_n hx hb dJ6_bitCount_0f7a4_34 rfl (lv_at hl 0 rfl) ?_
  refine lv_iload_n hx hb dJ6_bitCount_0f7a4_35 rfl (lv_at hl 0 rfl) ?_
  refine lv_bipush (v := (nI 8)) hx hb dJ6_bitCount_0f7a4_36 (by decide) ?_
  refine lv_iushr (v := (a3.toUInt32 >>> ((nI 8).toUInt32 &&& Int32.toUInt32 31)).toInt32) hx hb dJ6_bitCount_0f7a4_38 rfl ?_
  refine lv_iadd hx hb dJ6_bitCount_0f7a4_39 ?_
  refine lv_topi (fun a4 ea4 => ?_)
  refine lv_istore_n (lv' := [(0, .int a4)]) hx hb dJ6_bitCount_0f7a4_40 rfl hl (by decide) rfl (fun ls hl => ?_)
  refine lv_iload_n hx hb dJ6_bitCount_0f7a4_41 rfl (lv_at hl 0 rfl) ?_
  refine lv_iload_n hx hb dJ6_bitCount_0f7a4_42 rfl (lv_at hl 0 rfl) ?_
  refine lv_bipush (v := (nI 16)) hx hb dJ6_bitCount_0f7a4_43 (by decide) ?_
  refine lv_iushr (v := (a4.toUInt32 >>> ((nI 16).toUInt32 &&& Int32.toUInt32 31)).toInt32) hx hb dJ6_bitCount_0f7a4_45 rfl ?_
  refine lv_iadd hx hb dJ6_bitCount_0f7a4_46 ?_
  refine lv_topi (fun a5 ea5 => ?_)
  refine lv_istore_n (lv' := [(0, .int a5)]) hx hb dJ6_bitCount_0f7a4_47 rfl hl (by decide) rfl (fun ls hl => ?_)
  refine lv_iload_n hx hb dJ6_bitCount_0f7a4_48 rfl (lv_at hl 0 rfl) ?_
  refine lv_bipush (v := (nI 63)) hx hb dJ6_bitCount_0f7a4_49 (by decide) ?_
  refine lv_iand hx hb dJ6_bitCount_0f7a4_51 ?_
  exact kMi_ret hx hb hr hlocks hP hK hD hS dJ6_bitCount_0f7a4_52 (by subst ea5; subst ea4; subst ea3; subst ea2; subst ea1; rfl) rfl
set_option maxHeartbeats 4000000 in
set_option maxRecDepth 100000 in
theorem c_J7_fill_53178 (l : Launch) (dC : Nat → ClassId) (dI : Nat → Nat → Nat) (cA : ClassId) (a N : Nat) (f : Nat → Int32) (v : Int32) (hN : N < 1000) : kMv l yJ7_fill_53178 wsJ7_fill_53178 ({ frames := 0, cells := 0, slots := 0, locals := 0 }) dC dI [(cA, .int)] [(a, .inl (cA, N, .inl (f)))] [.ref a, .int v] [(a, .inl (cA, N, .inl (kx_fill f v N)))] := by
  refine kMv_of (cc := cJ7_fill_53178) (maxL := 4) (ret := none) (by decide) rfl (Nat.le_of_ble_eq_true rfl) ?_
  intro p e s m below meth c A ls hx hb hml hr hts hown hlocks hA hP hK hD hS hl
  have hl : lv_has ls 4 [(0, .ref a), (1, .int v)] := hl
  refine lv_iconst (v := (nI 0)) hx hb dJ7_fill_53178_0 (by decide) ?_
  refine lv_istore_n (lv' := [(2, .int (nI 0)), (0, .ref a), (1, .int v)]) hx hb dJ7_fill_53178_1 rfl hl (by decide) rfl (fun ls hl => ?_)
  refine lv_aload_n hx hb dJ7_fill_53178_2 rfl (lv_at hl 1 rfl) ?_
  refine va_alen hx hb hK hP 0 0 rfl rfl (v := nI N) rfl dJ7_fill_53178_3 ?_
  refine lv_istore_n (lv' := [(3, .int (nI N)), (2, .int (nI 0)), (0, .ref a), (1, .int v)]) hx hb dJ7_fill_53178_4 rfl hl (by decide) rfl (fun ls hl => ?_)
  have lp : ∀ (k i : Nat), i + k = N → ∀ (H : Heap) (locs : List Loc) (ls : Array Slot), va_P (dC, dI) vwCl [(a, .inl (cA, N, .inl (kx_fill f v i)))] H → va_D A [(a, .inl (cA, N, .inl (kx_fill f v i)))] → va_S A s.heap H locs → lv_has ls 4 [(0, .ref a), (1, .int v), (2, .int (nI i)), (3, .int (nI N))] → W p l e (headSpec wsJ7_fill_53178 ({ frames := 0, cells := 0, slots := 0, locals := 0 })).room s m ([.ref a, .int v] : List Value).toArray below meth c H locs 0 0 (MQ below (va_Qv (fun (_ : Unit) => True) (kB dC dI [(cA, .int)] [(a, .inl (cA, N, .inl (kx_fill f v N)))] A) A) ([.ref a, .int v] : List Value).toArray s 0 0 A) (F0 m 5 ls []) := by
    intro k
    induction k with
    | zero =>
      intro i hi H locs ls hP hD hS hl
      refine lv_iload_n hx hb dJ7_fill_53178_5 rfl (lv_at hl 2 rfl) ?_
      refine lv_iload_n hx hb dJ7_fill_53178_6 rfl (lv_at hl 3 rfl) ?_
      refine kv_ge (tgt := 20) hx hb (by omega) (by omega) dJ7_fill_53178_7 (by decide) (fun h7_0 => ?_) (fun h7_0 => absurd h7_0 (by omega))
      exact kMv_ret hx hb hr hlocks hP hK hD hS dJ7_fill_53178_20 (by rw [show i = N by omega])
    | succ k ih =>
      intro i hi H locs ls hP hD hS hl
      refine lv_iload_n hx hb dJ7_fill_53178_5 rfl (lv_at hl 2 rfl) ?_
      refine lv_iload_n hx hb dJ7_fill_53178_6 rfl (lv_at hl 3 rfl) ?_
      refine kv_ge (tgt := 20) hx hb (by omega) (by omega) dJ7_fill_53178_7 (by decide) (fun h7_0 => absurd h7_0 (by omega)) (fun h7_0 => ?_)
      refine lv_aload_n hx hb dJ7_fill_53178_10 rfl (lv_at hl 0 rfl) ?_
      refine lv_iload_n hx hb dJ7_fill_53178_11 rfl (lv_at hl 2 rfl) ?_
      refine lv_iload_n hx hb dJ7_fill_53178_12 rfl (lv_at hl 1 rfl) ?_
      refine kv_iast hx hb hK hP hD hS 0 0 rfl rfl (by omega) (by omega) dJ7_fill_53178_13 (fun H locs hP hD hS => ?_)
      have hP : va_P (dC, dI) vwCl ([(a, .inl (cA, N, .inl (upd (kx_fill f v i) i v)))]) H := hP
      have hD : va_D A ([(a, .inl (cA, N, .inl (upd (kx_fill f v i) i v)))]) := hD
      refine lv_iinc (v := (nI (i + 1))) (lv' := [(2, .int (nI (i + 1))), (0, .ref a), (1, .int v), (3, .int (nI N))]) hx hb dJ7_fill_53178_14 hl (k := 2) rfl (kv_inc _ 1 (by decide)) (by decide) rfl (fun ls hl => ?_)
      refine lv_goto (tgt := 5) hx hb dJ7_fill_53178_17 (by decide) ?_
      have hP : va_P (dC, dI) vwCl [(a, .inl (cA, N, .inl (kx_fill f v (i + 1))))] H := by rw [← kx_fill_s]; exact hP
      have hD : va_D A [(a, .inl (cA, N, .inl (kx_fill f v (i + 1))))] := by rw [← kx_fill_s]; exact hD
      exact ih (i + 1) (by omega) _ _ _ hP hD hS (lv_sub hl [1, 2, 0, 3] rfl)
  exact lp N 0 (by omega) _ _ _ hP hD hS (lv_sub hl [2, 3, 1, 0] rfl)
set_option maxHeartbeats 4000000 in
set_option maxRecDepth 100000 in
/-- NestCells.needPower  -/
theorem c_X0_needPower (l : Launch) (dC : Nat → ClassId) (dI : Nat → Nat → Nat) (cA : ClassId) (h0 q0 q1 q2 q3 q4 q5 : Nat) (w ce nm tl tc tw : Nat → Int32) (T n z : Nat) (wtc wia off : Int32)  (ho : off = 0) : kMv l yX0_needPower wsX0_needPower ({ frames := 0, cells := 0, slots := 0, locals := 0 }) dC dI [(cA, .int)] (wX0 cA h0 q0 q1 q2 q3 q4 q5 w ce nm tl tc tw T n z wtc wia off) [.ref h0] (wX0 cA h0 q0 q1 q2 q3 q4 q5 w ce nm tl tc tw T n z wtc wia off) := by
  refine kMv_of (cc := cX0_needPower) (maxL := 1) (ret := none) (by decide) rfl (Nat.le_of_ble_eq_true rfl) ?_
  intro p e s m below meth c A ls hx hb hml hr hts hown hlocks hA hP hK hD hS hl
  have hin : ∀ w ∈ u_ws RX0 TX0 12, w ∈ wsX0_needPower := by decide +kernel
  have hl : lv_has ls 1 [(0, .ref h0)] := hl
  refine lv_aload_n hx hb dX0_needPower_0 rfl (lv_at hl 0 rfl) ?_
  refine va_get (D := (dC, dI)) (ci := 0) (v := .int off) (C := RX0) (T := TX0) (N := 12) hx hb hts hin hown hK hP 0 rfl rfl 11 (by decide) (hts (.fieldLink RX0 44 "NestCells" "off" "Z") (by decide +kernel)) (fun _ h9 => h9) rfl dX0_needPower_1 ?_
  refine lv_if_eq (tgt := 17) hx hb dX0_needPower_4 (by decide) (fun h4_0 => ?_) (fun h4_0 => absurd h4_0 (fun q => q ho))
  exact kMv_ret hx hb hr hlocks hP hK hD hS dX0_needPower_17 rfl
set_option maxHeartbeats 4000000 in
set_option maxRecDepth 100000 in
/-- NestCells.needTransaction  -/
theorem c_X0_needTransaction (l : Launch) (dC : Nat → ClassId) (dI : Nat → Nat → Nat) (cA : ClassId) (h0 q0 q1 q2 q3 q4 q5 : Nat) (w ce nm tl tc tw : Nat → Int32) (T n z : Nat) (wtc wia off : Int32)  (ho : off = 0) (hT : 0 < T) (hT2 : T ≤ 8) : kMv l yX0_needTransaction wsX0_needTransaction ({ frames := 1, cells := 0, slots := 0, locals := 20 }) dC dI [(cA, .int)] (wX0 cA h0 q0 q1 q2 q3 q4 q5 w ce nm tl tc tw T n z wtc wia off) [.ref h0] (wX0 cA h0 q0 q1 q2 q3 q4 q5 w ce nm tl tc tw T n z wtc wia off) := by
  refine kMv_of (cc := cX0_needTransaction) (maxL := 1) (ret := none) (by decide) rfl (Nat.le_of_ble_eq_true rfl) ?_
  intro p e s m below meth c A ls hx hb hml hr hts hown hlocks hA hP hK hD hS hl
  have hin : ∀ w ∈ u_ws RX0 TX0 12, w ∈ wsX0_needTransaction := by decide +kernel
  have hl : lv_has ls 1 [(0, .ref h0)] := hl
  refine lv_aload_n hx hb dX0_needTransaction_0 rfl (lv_at hl 0 rfl) ?_
  refine kv_Vv (Xr := []) (n := 0) (c_X0_needPower l dC dI cA h0 q0 q1 q2 q3 q4 q5 w ce nm tl tc tw T n z wtc wia off  ho) hx hb hml hown hts gX0_needTransaction_X0_needPower rfl ⟨rfl, rfl⟩ (by decide +kernel) rfl ⟨Nat.le_of_ble_eq_true rfl, Nat.le_of_ble_eq_true rfl⟩ hK hP hD hS hA [0] [0, 1, 2, 3, 4, 5, 6] [] rfl rfl rfl (by decide) (by decide) (q0 := 0) rfl rfl rfl (by decide) hl.1 rfl (Nat.le_of_ble_eq_true rfl) dX0_needTransaction_1 ⟨Nat.zero_le _, Nat.zero_le _⟩ (fun H locs hP hD hS => ?_)
  have hP : va_P (dC, dI) vwCl (wX0 cA h0 q0 q1 q2 q3 q4 q5 w ce nm tl tc tw T n z wtc wia off) H := hP
  have hD : va_D A (wX0 cA h0 q0 q1 q2 q3 q4 q5 w ce nm tl tc tw T n z wtc wia off) := hD
  refine lv_aload_n hx hb dX0_needTransaction_4 rfl (lv_at hl 0 rfl) ?_
  refine va_get (D := (dC, dI)) (ci := 0) (v := .int (nI T)) (C := RX0) (T := TX0) (N := 12) hx hb hts hin hown hK hP 0 rfl rfl 6 (by decide) (hts (.fieldLink RX0 51 "NestCells" "transactions" "I") (by decide +kernel)) (fun _ h9 => h9) rfl dX0_needTransaction_5 ?_
  refine kv_if_ne (tgt := 21) hx hb (by omega) dX0_needTransaction_8 (by decide) (fun h8_0 => ?_) (fun h8_0 => absurd h8_0 (by omega))
  exact kMv_ret hx hb hr hlocks hP hK hD hS dX0_needTransaction_21 rfl
set_option maxHeartbeats 4000000 in
set_option maxRecDepth 100000 in
/-- NestCells.needCell  -/
theorem c_X0_needCell (l : Launch) (dC : Nat → ClassId) (dI : Nat → Nat → Nat) (cA : ClassId) (h0 q0 q1 q2 q3 q4 q5 : Nat) (w ce nm tl tc tw : Nat → Int32) (T n z : Nat) (wtc wia off : Int32) (cell : Nat) (hc : cell < 32) : kMv l yX0_needCell wsX0_needCell ({ frames := 1, cells := 0, slots := 0, locals := 20 }) dC dI [(cA, .int)] (wX0 cA h0 q0 q1 q2 q3 q4 q5 w ce nm tl tc tw T n z wtc wia off) [.ref h0, .int (nI cell)] (wX0 cA h0 q0 q1 q2 q3 q4 q5 w ce nm tl tc tw T n z wtc wia off) := by
  refine kMv_of (cc := cX0_needCell) (maxL := 2) (ret := none) (by decide) rfl (Nat.le_of_ble_eq_true rfl) ?_
  intro p e s m below meth c A ls hx hb hml hr hts hown hlocks hA hP hK hD hS hl
  have hl : lv_has ls 2 [(0, .ref h0), (1, .int (nI cell))] := hl
  refine lv_iload_n hx hb dX0_needCell_0 rfl (lv_at hl 1 rfl) ?_
  refine kv_Si (Xr := wX0 cA h0 q0 q1 q2 q3 q4 q5 w ce nm tl tc tw T n z wtc wia off) (n := 1) (c_X0_isCell l dC dI   (nI cell) ) hx hb hml hown hts gX0_needCell_X0_isCell rfl ⟨rfl, rfl⟩ (by decide +kernel) rfl ⟨Nat.le_of_ble_eq_true rfl, Nat.le_of_ble_eq_true rfl⟩ hK hP hD hS hA [] [] [0, 1, 2, 3, 4, 5, 6] rfl rfl rfl (by decide) (by decide) rfl (by decide) hl.1 rfl (Nat.le_of_ble_eq_true rfl) dX0_needCell_1 ⟨Nat.zero_le _, Nat.zero_le _⟩ (fun H locs hP hD hS => ?_)
  have hP : va_P (dC, dI) vwCl (wX0 cA h0 q0 q1 q2 q3 q4 q5 w ce nm tl tc tw T n z wtc wia off) H := hP
  have hD : va_D A (wX0 cA h0 q0 q1 q2 q3 q4 q5 w ce nm tl tc tw T n z wtc wia off) := hD
  refine lv_if_ne (tgt := 17) hx hb dX0_needCell_4 (by decide) (fun h4_0 => ?_) (fun h4_0 => absurd h4_0 (by rw [kx_isCell_n hc]; exact kv_n10))
  exact kMv_ret hx hb hr hlocks hP hK hD hS dX0_needCell_17 rfl
set_option maxHeartbeats 4000000 in
set_option maxRecDepth 100000 in
/-- NestCells.needWord  -/
theorem c_X0_needWord (l : Launch) (dC : Nat → ClassId) (dI : Nat → Nat → Nat) (cA : ClassId) (h0 q0 q1 q2 q3 q4 q5 : Nat) (w ce nm tl tc tw : Nat → Int32) (T n z : Nat) (wtc wia off : Int32) (i : Nat) (hi : i < 98) : kMv l yX0_needWord wsX0_needWord ({ frames := 0, cells := 0, slots := 0, locals := 0 }) dC dI [(cA, .int)] (wX0 cA h0 q0 q1 q2 q3 q4 q5 w ce nm tl tc tw T n z wtc wia off) [.ref h0, .int (nI i)] (wX0 cA h0 q0 q1 q2 q3 q4 q5 w ce nm tl tc tw T n z wtc wia off) := by
  refine kMv_of (cc := cX0_needWord) (maxL := 2) (ret := none) (by decide) rfl (Nat.le_of_ble_eq_true rfl) ?_
  intro p e s m below meth c A ls hx hb hml hr hts hown hlocks hA hP hK hD hS hl
  have hl : lv_has ls 2 [(0, .ref h0), (1, .int (nI i))] := hl
  refine lv_iload_n hx hb dX0_needWord_0 rfl (lv_at hl 1 rfl) ?_
  refine kv_if_lt (tgt := 10) hx hb (by omega) dX0_needWord_1 (by decide) ?_
  refine lv_iload_n hx hb dX0_needWord_4 rfl (lv_at hl 1 rfl) ?_
  refine lv_bipush (v := (nI 98)) hx hb dX0_needWord_5 (by decide) ?_
  refine kv_lt (tgt := 20) hx hb (by omega) (by omega) dX0_needWord_7 (by decide) (fun h7_0 => ?_) (fun h7_0 => absurd h7_0 (by omega))
  exact kMv_ret hx hb hr hlocks hP hK hD hS dX0_needWord_20 rfl
set_option maxHeartbeats 4000000 in
set_option maxRecDepth 100000 in
/-- NestCells.needName  -/
theorem c_X0_needName (l : Launch) (dC : Nat → ClassId) (dI : Nat → Nat → Nat) (cA : ClassId) (h0 q0 q1 q2 q3 q4 q5 : Nat) (w ce nm tl tc tw : Nat → Int32) (T n z : Nat) (wtc wia off : Int32) (name : Nat) (hn : name < 10) : kMv l yX0_needName wsX0_needName ({ frames := 0, cells := 0, slots := 0, locals := 0 }) dC dI [(cA, .int)] (wX0 cA h0 q0 q1 q2 q3 q4 q5 w ce nm tl tc tw T n z wtc wia off) [.ref h0, .int (nI name)] (wX0 cA h0 q0 q1 q2 q3 q4 q5 w ce nm tl tc tw T n z wtc wia off) := by
  refine kMv_of (cc := cX0_needName) (maxL := 2) (ret := none) (by decide) rfl (Nat.le_of_ble_eq_true rfl) ?_
  intro p e s m below meth c A ls hx hb hml hr hts hown hlocks hA hP hK hD hS hl
  have hl : lv_has ls 2 [(0, .ref h0), (1, .int (nI name))] := hl
  refine lv_iload_n hx hb dX0_needName_0 rfl (lv_at hl 1 rfl) ?_
  refine kv_if_lt (tgt := 10) hx hb (by omega) dX0_needName_1 (by decide) ?_
  refine lv_iload_n hx hb dX0_needName_4 rfl (lv_at hl 1 rfl) ?_
  refine lv_bipush (v := (nI 10)) hx hb dX0_needName_5 (by decide) ?_
  refine kv_lt (tgt := 20) hx hb (by omega) (by omega) dX0_needName_7 (by decide) (fun h7_0 => ?_) (fun h7_0 => absurd h7_0 (by omega))
  exact kMv_ret hx hb hr hlocks hP hK hD hS dX0_needName_20 rfl
set_option maxHeartbeats 4000000 in
set_option maxRecDepth 100000 in
/-- NestCells.needPoint  -/
theorem c_X0_needPoint (l : Launch) (dC : Nat → ClassId) (dI : Nat → Nat → Nat) (cA : ClassId) (h0 q0 q1 q2 q3 q4 q5 : Nat) (w ce nm tl tc tw : Nat → Int32) (T n z : Nat) (wtc wia off : Int32) (name : Nat) (hn : n ≤ 88) (hp : 1 ≤ kx_pl nm (nI name) (kx_inn nm n) n) : kMi l yX0_needPoint wsX0_needPoint ({ frames := 2, cells := 0, slots := 0, locals := 44 }) dC dI [(cA, .int)] (wX0 cA h0 q0 q1 q2 q3 q4 q5 w ce nm tl tc tw T n z wtc wia off) [.ref h0, .int (nI name)] (nI (kx_pl nm (nI name) (kx_inn nm n) n - 1)) (wX0 cA h0 q0 q1 q2 q3 q4 q5 w ce nm tl tc tw T n z wtc wia off) := by
  refine kMi_of (cc := cX0_needPoint) (maxL := 3) (ret := (some .int)) (by decide) rfl (Nat.le_of_ble_eq_true rfl) ?_
  intro p e s m below meth c A ls hx hb hml hr hts hown hlocks hA hP hK hD hS hl
  have hl : lv_has ls 3 [(0, .ref h0), (1, .int (nI name))] := hl
  refine lv_aload_n hx hb dX0_needPoint_0 rfl (lv_at hl 0 rfl) ?_
  refine lv_iload_n hx hb dX0_needPoint_1 rfl (lv_at hl 1 rfl) ?_
  refine kv_Vi (Xr := []) (n := 1) (c_X0_pointLevel l dC dI cA h0 q0 q1 q2 q3 q4 q5 w ce nm tl tc tw T n z wtc wia off (nI name) (by omega)) hx hb hml hown hts gX0_needPoint_X0_pointLevel rfl ⟨rfl, rfl⟩ (by decide +kernel) rfl ⟨Nat.le_of_ble_eq_true rfl, Nat.le_of_ble_eq_true rfl⟩ hK hP hD hS hA [0] [0, 1, 2, 3, 4, 5, 6] [] rfl rfl rfl (by decide) (by decide) (q0 := 0) rfl rfl rfl (by decide) hl.1 rfl (Nat.le_of_ble_eq_true rfl) dX0_needPoint_2 ⟨Nat.zero_le _, Nat.zero_le _⟩ (fun H locs hP hD hS => ?_)
  have hP : va_P (dC, dI) vwCl (wX0 cA h0 q0 q1 q2 q3 q4 q5 w ce nm tl tc tw T n z wtc wia off) H := hP
  have hD : va_D A (wX0 cA h0 q0 q1 q2 q3 q4 q5 w ce nm tl tc tw T n z wtc wia off) := hD
  have hple := kx_pl_le nm (nI name) (kx_inn nm n) n
  refine kv_top (w := .int (nI (kx_pl nm (nI name) (kx_inn nm n) n - 1))) (by rw [← pk_sub hp]) ?_
  refine lv_istore_n (lv' := [(2, .int (nI (kx_pl nm (nI name) (kx_inn nm n) n - 1))), (0, .ref h0), (1, .int (nI name))]) hx hb dX0_needPoint_5 rfl hl (by decide) rfl (fun ls hl => ?_)
  refine lv_iload_n hx hb dX0_needPoint_6 rfl (lv_at hl 0 rfl) ?_
  refine lv_iconst (v := (-1)) hx hb dX0_needPoint_7 (by decide) ?_
  refine lv_icmp_ne (tgt := 21) hx hb dX0_needPoint_8 (by decide) (fun h8_0 => ?_) (fun h8_0 => absurd h8_0 (kv_nm1 (by omega)))
  refine lv_iload_n hx hb dX0_needPoint_21 rfl (lv_at hl 0 rfl) ?_
  exact kMi_ret hx hb hr hlocks hP hK hD hS dX0_needPoint_22 rfl rfl
set_option maxHeartbeats 4000000 in
set_option maxRecDepth 100000 in
/-- NestCells.goBack  -/
theorem c_X0_goBack (l : Launch) (dC : Nat → ClassId) (dI : Nat → Nat → Nat) (cA : ClassId) (h0 q0 q1 q2 q3 q4 q5 : Nat) (w ce nm tl tc tw : Nat → Int32) (T n z : Nat) (wtc wia off : Int32) (lev : Nat) (hz : z ≤ 60) (htc : ∀ t, t < z → ∃ i : Nat, i < 32 ∧ tc t = nI i) : kMi l yX0_goBack wsX0_goBack ({ frames := 0, cells := 0, slots := 0, locals := 0 }) dC dI [(cA, .int)] (wX0 cA h0 q0 q1 q2 q3 q4 q5 w ce nm tl tc tw T n z wtc wia off) [.ref h0, .int (nI lev)] (nI ((kx_gb tl tc tw (nI lev) z ce 0).2.2)) (wX0 cA h0 q0 q1 q2 q3 q4 q5 w ((kx_gb tl tc tw (nI lev) z ce 0).2.1) nm tl tc tw T lev ((kx_gb tl tc tw (nI lev) z ce 0).1) wtc wia off) := by
  refine kMi_of (cc := cX0_goBack) (maxL := 3) (ret := (some .int)) (by decide) rfl (Nat.le_of_ble_eq_true rfl) ?_
  intro p e s m below meth c A ls hx hb hml hr hts hown hlocks hA hP hK hD hS hl
  have hin : ∀ w ∈ u_ws RX0 TX0 12, w ∈ wsX0_goBack := by decide +kernel
  have hl : lv_has ls 3 [(0, .ref h0), (1, .int (nI lev))] := hl
  refine lv_iconst (v := (nI 0)) hx hb dX0_goBack_0 (by decide) ?_
  refine lv_istore_n (lv' := [(2, .int (nI 0)), (0, .ref h0), (1, .int (nI lev))]) hx hb dX0_goBack_1 rfl hl (by decide) rfl (fun ls hl => ?_)
  have lp : ∀ (k : Nat) (c' : Nat → Int32) (g : Nat), ∀ (_ : g + k ≤ z), ∀ (_ : kx_gb tl tc tw (nI lev) k c' g = kx_gb tl tc tw (nI lev) z ce 0), ∀ (H : Heap) (locs : List Loc) (ls : Array Slot), va_P (dC, dI) vwCl (wX0 cA h0 q0 q1 q2 q3 q4 q5 w c' nm tl tc tw T n k wtc wia off) H → va_D A (wX0 cA h0 q0 q1 q2 q3 q4 q5 w c' nm tl tc tw T n k wtc wia off) → va_S A s.heap H locs → lv_has ls 3 [(0, .ref h0), (1, .int (nI lev)), (2, .int (nI g))] → W p l e (headSpec wsX0_goBack ({ frames := 0, cells := 0, slots := 0, locals := 0 })).room s m ([.ref h0, .int (nI lev)] : List Value).toArray below meth c H locs 0 0 (MQ below (va_Qi (fun (r' : Int32) (_ : Unit) => r' = (nI ((kx_gb tl tc tw (nI lev) z ce 0).2.2))) (kB dC dI [(cA, .int)] (wX0 cA h0 q0 q1 q2 q3 q4 q5 w ((kx_gb tl tc tw (nI lev) z ce 0).2.1) nm tl tc tw T lev ((kx_gb tl tc tw (nI lev) z ce 0).1) wtc wia off) A) A) ([.ref h0, .int (nI lev)] : List Value).toArray s 0 0 A) (F0 m 2 ls []) := by
    intro k
    induction k with
    | zero =>
      intro c' g hk he H locs ls hP hD hS hl
      refine lv_aload_n hx hb dX0_goBack_2 rfl (lv_at hl 0 rfl) ?_
      refine va_get (D := (dC, dI)) (ci := 0) (v := .int (nI 0)) (C := RX0) (T := TX0) (N := 12) hx hb hts hin hown hK hP 0 rfl rfl 8 (by decide) (hts (.fieldLink RX0 82 "NestCells" "traces" "I") (by decide +kernel)) (fun _ h9 => h9) rfl dX0_goBack_3 ?_
      refine kv_if_le (tgt := 63) hx hb (by omega) dX0_goBack_6 (by decide) (fun _ => ?_) (fun h9 => absurd h9 (by omega))
      refine lv_aload_n hx hb dX0_goBack_63 rfl (lv_at hl 0 rfl) ?_
      refine lv_iload_n hx hb dX0_goBack_64 rfl (lv_at hl 1 rfl) ?_
      refine va_put (D := (dC, dI)) (ci := 0) (v := .int (nI lev)) (ty := .int) (C := RX0) (T := TX0) (N := 12) hx hb hts hin tyX0 tyX0_ok nmX0 hown hK hP hD hS 0 rfl rfl 7 (by decide) (hts (.fieldLink RX0 71 "NestCells" "levels" "I") (by decide +kernel)) (fun _ h9 => h9) rfl (by decide +kernel) rfl rfl (Nat.le_of_ble_eq_true rfl) dX0_goBack_65 (fun H locs hP hD hS => ?_)
      have hP : va_P (dC, dI) vwCl (wX0 cA h0 q0 q1 q2 q3 q4 q5 w c' nm tl tc tw T lev 0 wtc wia off) H := hP
      have hD : va_D A (wX0 cA h0 q0 q1 q2 q3 q4 q5 w c' nm tl tc tw T lev 0 wtc wia off) := hD
      refine lv_iload_n hx hb dX0_goBack_68 rfl (lv_at hl 2 rfl) ?_
      exact kMi_ret hx hb hr hlocks hP hK hD hS dX0_goBack_69 (by rw [← he]; rfl) (by rw [← he]; rfl)
    | succ k ih =>
      intro c' g hk he H locs ls hP hD hS hl
      refine lv_aload_n hx hb dX0_goBack_2 rfl (lv_at hl 0 rfl) ?_
      refine va_get (D := (dC, dI)) (ci := 0) (v := .int (nI (k + 1))) (C := RX0) (T := TX0) (N := 12) hx hb hts hin hown hK hP 0 rfl rfl 8 (by decide) (hts (.fieldLink RX0 82 "NestCells" "traces" "I") (by decide +kernel)) (fun _ h9 => h9) rfl dX0_goBack_3 ?_
      refine kv_if_le (tgt := 63) hx hb (by omega) dX0_goBack_6 (by decide) (fun h6_0 => absurd h6_0 (by omega)) (fun h6_0 => ?_)
      refine lv_aload_n hx hb dX0_goBack_9 rfl (lv_at hl 0 rfl) ?_
      refine va_get (D := (dC, dI)) (ci := 0) (v := .ref q3) (C := RX0) (T := TX0) (N := 12) hx hb hts hin hown hK hP 0 rfl rfl 3 (by decide) (hts (.fieldLink RX0 19 "NestCells" "traceLevel" "[I") (by decide +kernel)) (fun _ h9 => h9) rfl dX0_goBack_10 ?_
      refine lv_aload_n hx hb dX0_goBack_13 rfl (lv_at hl 0 rfl) ?_
      refine va_get (D := (dC, dI)) (ci := 0) (v := .int (nI (k + 1))) (C := RX0) (T := TX0) (N := 12) hx hb hts hin hown hK hP 0 rfl rfl 8 (by decide) (hts (.fieldLink RX0 82 "NestCells" "traces" "I") (by decide +kernel)) (fun _ h9 => h9) rfl dX0_goBack_14 ?_
      refine lv_iconst (v := (nI 1)) hx hb dX0_goBack_17 (by decide) ?_
      refine kv_subE (d := k) hx hb (by omega) dX0_goBack_18 ?_
      refine kv_iald hx hb hK hP 4 0 rfl rfl (by omega) (by omega) dX0_goBack_19 ?_
      refine lv_iload_n hx hb dX0_goBack_20 rfl (lv_at hl 1 rfl) ?_
      refine lv_icmp_lt (tgt := 63) hx hb dX0_goBack_21 (by decide) (fun h21_0 => ?_) (fun h21_0 => ?_)
      · skip
        refine lv_aload_n hx hb dX0_goBack_63 rfl (lv_at hl 0 rfl) ?_
        refine lv_iload_n hx hb dX0_goBack_64 rfl (lv_at hl 1 rfl) ?_
        refine va_put (D := (dC, dI)) (ci := 0) (v := .int (nI lev)) (ty := .int) (C := RX0) (T := TX0) (N := 12) hx hb hts hin tyX0 tyX0_ok nmX0 hown hK hP hD hS 0 rfl rfl 7 (by decide) (hts (.fieldLink RX0 71 "NestCells" "levels" "I") (by decide +kernel)) (fun _ h9 => h9) rfl (by decide +kernel) rfl rfl (Nat.le_of_ble_eq_true rfl) dX0_goBack_65 (fun H locs hP hD hS => ?_)
        have hP : va_P (dC, dI) vwCl (wX0 cA h0 q0 q1 q2 q3 q4 q5 w c' nm tl tc tw T lev (k + 1) wtc wia off) H := hP
        have hD : va_D A (wX0 cA h0 q0 q1 q2 q3 q4 q5 w c' nm tl tc tw T lev (k + 1) wtc wia off) := hD
        refine lv_iload_n hx hb dX0_goBack_68 rfl (lv_at hl 2 rfl) ?_
        exact kMi_ret hx hb hr hlocks hP hK hD hS dX0_goBack_69 (by rw [← he, kx_gb, if_pos h21_0]) (by rw [← he, kx_gb, if_pos h21_0])
      · skip
        refine lv_aload_n hx hb dX0_goBack_24 rfl (lv_at hl 0 rfl) ?_
        refine lv_dup hx hb dX0_goBack_25 rfl ?_
        refine va_get (D := (dC, dI)) (ci := 0) (v := .int (nI (k + 1))) (C := RX0) (T := TX0) (N := 12) hx hb hts hin hown hK hP 0 rfl rfl 8 (by decide) (hts (.fieldLink RX0 82 "NestCells" "traces" "I") (by decide +kernel)) (fun _ h9 => h9) rfl dX0_goBack_26 ?_
        refine lv_iconst (v := (nI 1)) hx hb dX0_goBack_29 (by decide) ?_
        refine kv_subE (d := k) hx hb (by omega) dX0_goBack_30 ?_
        refine va_put (D := (dC, dI)) (ci := 0) (v := .int (nI k)) (ty := .int) (C := RX0) (T := TX0) (N := 12) hx hb hts hin tyX0 tyX0_ok nmX0 hown hK hP hD hS 0 rfl rfl 8 (by decide) (hts (.fieldLink RX0 82 "NestCells" "traces" "I") (by decide +kernel)) (fun _ h9 => h9) rfl (by decide +kernel) rfl rfl (Nat.le_of_ble_eq_true rfl) dX0_goBack_31 (fun H locs hP hD hS => ?_)
        have hP : va_P (dC, dI) vwCl (wX0 cA h0 q0 q1 q2 q3 q4 q5 w c' nm tl tc tw T n k wtc wia off) H := hP
        have hD : va_D A (wX0 cA h0 q0 q1 q2 q3 q4 q5 w c' nm tl tc tw T n k wtc wia off) := hD
        refine lv_aload_n hx hb dX0_goBack_34 rfl (lv_at hl 0 rfl) ?_
        refine va_get (D := (dC, dI)) (ci := 0) (v := .ref q1) (C := RX0) (T := TX0) (N := 12) hx hb hts hin hown hK hP 0 rfl rfl 1 (by decide) (hts (.fieldLink RX0 13 "NestCells" "cells" "[I") (by decide +kernel)) (fun _ h9 => h9) rfl dX0_goBack_35 ?_
        refine lv_aload_n hx hb dX0_goBack_38 rfl (lv_at hl 0 rfl) ?_
        refine va_get (D := (dC, dI)) (ci := 0) (v := .ref q4) (C := RX0) (T := TX0) (N := 12) hx hb hts hin hown hK hP 0 rfl rfl 4 (by decide) (hts (.fieldLink RX0 22 "NestCells" "traceCell" "[I") (by decide +kernel)) (fun _ h9 => h9) rfl dX0_goBack_39 ?_
        refine lv_aload_n hx hb dX0_goBack_42 rfl (lv_at hl 0 rfl) ?_
        refine va_get (D := (dC, dI)) (ci := 0) (v := .int (nI k)) (C := RX0) (T := TX0) (N := 12) hx hb hts hin hown hK hP 0 rfl rfl 8 (by decide) (hts (.fieldLink RX0 82 "NestCells" "traces" "I") (by decide +kernel)) (fun _ h9 => h9) rfl dX0_goBack_43 ?_
        refine kv_iald hx hb hK hP 5 0 rfl rfl (by omega) (by omega) dX0_goBack_46 ?_
        obtain ⟨ci, hci, eci⟩ := htc k (by omega)
        refine kv_top (w := .int (nI ci)) (by rw [eci]) ?_
        refine lv_aload_n hx hb dX0_goBack_47 rfl (lv_at hl 0 rfl) ?_
        refine va_get (D := (dC, dI)) (ci := 0) (v := .ref q5) (C := RX0) (T := TX0) (N := 12) hx hb hts hin hown hK hP 0 rfl rfl 5 (by decide) (hts (.fieldLink RX0 25 "NestCells" "traceWas" "[I") (by decide +kernel)) (fun _ h9 => h9) rfl dX0_goBack_48 ?_
        refine lv_aload_n hx hb dX0_goBack_51 rfl (lv_at hl 0 rfl) ?_
        refine va_get (D := (dC, dI)) (ci := 0) (v := .int (nI k)) (C := RX0) (T := TX0) (N := 12) hx hb hts hin hown hK hP 0 rfl rfl 8 (by decide) (hts (.fieldLink RX0 82 "NestCells" "traces" "I") (by decide +kernel)) (fun _ h9 => h9) rfl dX0_goBack_52 ?_
        refine kv_iald hx hb hK hP 6 0 rfl rfl (by omega) (by omega) dX0_goBack_55 ?_
        refine kv_iast hx hb hK hP hD hS 2 0 rfl rfl (by omega) (by omega) dX0_goBack_56 (fun H locs hP hD hS => ?_)
        have hP : va_P (dC, dI) vwCl (wX0 cA h0 q0 q1 q2 q3 q4 q5 w (upd c' ci (tw k)) nm tl tc tw T n k wtc wia off) H := hP
        have hD : va_D A (wX0 cA h0 q0 q1 q2 q3 q4 q5 w (upd c' ci (tw k)) nm tl tc tw T n k wtc wia off) := hD
        refine lv_iinc (v := (nI (g + 1))) (lv' := [(2, .int (nI (g + 1))), (0, .ref h0), (1, .int (nI lev))]) hx hb dX0_goBack_57 hl (k := 2) rfl (kv_inc _ 1 (by decide)) (by decide) rfl (fun ls hl => ?_)
        refine lv_goto (tgt := 2) hx hb dX0_goBack_60 (by decide) ?_
        exact ih _ (g + 1) (by omega) (by rw [← he, kx_gb, if_neg h21_0, eci, nI_clamp (by omega)]) _ _ _ hP hD hS (lv_sub hl [1, 2, 0] rfl)
  exact lp z ce 0 (by omega) rfl _ _ _ hP hD hS (lv_sub hl [1, 2, 0] rfl)
end
section
set_option maxHeartbeats 4000000 in
set_option maxRecDepth 100000 in
/-- NestCells.foldLevel  -/
theorem c_X0_foldLevel (l : Launch) (dC : Nat → ClassId) (dI : Nat → Nat → Nat) (cA : ClassId) (h0 q0 q1 q2 q3 q4 q5 : Nat) (w ce nm tl tc tw : Nat → Int32) (T n z : Nat) (wtc wia off : Int32) (lev : Nat) (hz : z ≤ 60) (hn : n ≤ 88) (hlev : 1 ≤ lev) (hlev2 : lev < n) : kMv l yX0_foldLevel wsX0_foldLevel ({ frames := 1, cells := 0, slots := 0, locals := 23 }) dC dI [(cA, .int)] (wX0 cA h0 q0 q1 q2 q3 q4 q5 w ce nm tl tc tw T n z wtc wia off) [.ref h0, .int (nI lev)] (wX0 cA h0 q0 q1 q2 q3 q4 q5 w ce (kx_sh nm lev n) ((kx_fo (kx_tc tl tc (nI (lev - 1)) z) (nI lev) tl tc tw z).2.1) ((kx_fo (kx_tc tl tc (nI (lev - 1)) z) (nI lev) tl tc tw z).2.2.1) ((kx_fo (kx_tc tl tc (nI (lev - 1)) z) (nI lev) tl tc tw z).2.2.2) T (n - 1) ((kx_fo (kx_tc tl tc (nI (lev - 1)) z) (nI lev) tl tc tw z).1) wtc wia off) := by
  refine kMv_of (cc := cX0_foldLevel) (maxL := 5) (ret := none) (by decide) rfl (Nat.le_of_ble_eq_true rfl) ?_
  intro p e s m below meth c A ls hx hb hml hr hts hown hlocks hA hP hK hD hS hl
  have hin : ∀ w ∈ u_ws RX0 TX0 12, w ∈ wsX0_foldLevel := by decide +kernel
  have hl : lv_has ls 5 [(0, .ref h0), (1, .int (nI lev))] := hl
  refine lv_aload_n hx hb dX0_foldLevel_0 rfl (lv_at hl 0 rfl) ?_
  refine lv_iload_n hx hb dX0_foldLevel_1 rfl (lv_at hl 1 rfl) ?_
  refine lv_iconst (v := (nI 1)) hx hb dX0_foldLevel_2 (by decide) ?_
  refine kv_subE (d := lev - 1) hx hb (by omega) dX0_foldLevel_3 ?_
  refine kv_Vi (Xr := []) (n := 1) (c_X0_tracedCells l dC dI cA h0 q0 q1 q2 q3 q4 q5 w ce nm tl tc tw T n z wtc wia off (nI (lev - 1)) (by omega)) hx hb hml hown hts gX0_foldLevel_X0_tracedCells rfl ⟨rfl, rfl⟩ (by decide +kernel) rfl ⟨Nat.le_of_ble_eq_true rfl, Nat.le_of_ble_eq_true rfl⟩ hK hP hD hS hA [0] [0, 1, 2, 3, 4, 5, 6] [] rfl rfl rfl (by decide) (by decide) (q0 := 0) rfl rfl rfl (by decide) hl.1 rfl (Nat.le_of_ble_eq_true rfl) dX0_foldLevel_4 ⟨Nat.zero_le _, Nat.zero_le _⟩ (fun H locs hP hD hS => ?_)
  have hP : va_P (dC, dI) vwCl (wX0 cA h0 q0 q1 q2 q3 q4 q5 w ce nm tl tc tw T n z wtc wia off) H := hP
  have hD : va_D A (wX0 cA h0 q0 q1 q2 q3 q4 q5 w ce nm tl tc tw T n z wtc wia off) := hD
  refine lv_istore_n (lv' := [(2, .int (kx_tc tl tc (nI (lev - 1)) z)), (0, .ref h0), (1, .int (nI lev))]) hx hb dX0_foldLevel_7 rfl hl (by decide) rfl (fun ls hl => ?_)
  refine lv_iconst (v := (nI 0)) hx hb dX0_foldLevel_8 (by decide) ?_
  refine lv_istore_n (lv' := [(3, .int (nI 0)), (2, .int (kx_tc tl tc (nI (lev - 1)) z)), (0, .ref h0), (1, .int (nI lev))]) hx hb dX0_foldLevel_9 rfl hl (by decide) rfl (fun ls hl => ?_)
  refine lv_iconst (v := (nI 0)) hx hb dX0_foldLevel_10 (by decide) ?_
  refine lv_istore (lv' := [(4, .int (nI 0)), (3, .int (nI 0)), (2, .int (kx_tc tl tc (nI (lev - 1)) z)), (0, .ref h0), (1, .int (nI lev))]) hx hb dX0_foldLevel_11 hl (by decide) rfl (fun ls hl => ?_)
  obtain ⟨F, hF⟩ : ∃ F, F = kx_fo (kx_tc tl tc (nI (lev - 1)) z) (nI lev) tl tc tw := ⟨_, rfl⟩
  have hFl : ∀ t, (F t).1 ≤ t := fun t => by rw [hF]; exact kx_fo_le _ _ _ _ _ t
  have hFs : ∀ t, F (t + 1) = if (F t).2.1 t = nI lev ∧ ¬ kx_holds (kx_tc tl tc (nI (lev - 1)) z) ((F t).2.2.1 t) = 0 then F t else ((F t).1 + 1, upd (F t).2.1 (F t).1 (if nI lev ≤ (F t).2.1 t then (F t).2.1 t - nI 1 else (F t).2.1 t), upd (F t).2.2.1 (F t).1 ((F t).2.2.1 t), upd (F t).2.2.2 (F t).1 ((F t).2.2.2 t)) := fun t => by rw [hF]; rfl
  have hP : va_P (dC, dI) vwCl (wX0 cA h0 q0 q1 q2 q3 q4 q5 w ce nm ((F 0).2.1) ((F 0).2.2.1) ((F 0).2.2.2) T n z wtc wia off) H := by rw [hF]; exact hP
  have hD : va_D A (wX0 cA h0 q0 q1 q2 q3 q4 q5 w ce nm ((F 0).2.1) ((F 0).2.2.1) ((F 0).2.2.2) T n z wtc wia off) := by rw [hF]; exact hD
  have hl : lv_has ls 5 [(4, .int (nI 0)), (3, .int (nI ((F 0).1))), (2, .int (kx_tc tl tc (nI (lev - 1)) z)), (0, .ref h0), (1, .int (nI lev))] := by rw [hF]; exact hl
  have lp : ∀ (k : Nat) (t : Nat), ∀ (_ : t + k = z), ∀ (H : Heap) (locs : List Loc) (ls : Array Slot), va_P (dC, dI) vwCl (wX0 cA h0 q0 q1 q2 q3 q4 q5 w ce nm ((F t).2.1) ((F t).2.2.1) ((F t).2.2.2) T n z wtc wia off) H → va_D A (wX0 cA h0 q0 q1 q2 q3 q4 q5 w ce nm ((F t).2.1) ((F t).2.2.1) ((F t).2.2.2) T n z wtc wia off) → va_S A s.heap H locs → lv_has ls 5 [(0, .ref h0), (1, .int (nI lev)), (2, .int (kx_tc tl tc (nI (lev - 1)) z)), (3, .int (nI ((F t).1))), (4, .int (nI t))] → W p l e (headSpec wsX0_foldLevel ({ frames := 1, cells := 0, slots := 0, locals := 23 })).room s m ([.ref h0, .int (nI lev)] : List Value).toArray below meth c H locs 0 0 (MQ below (va_Qv (fun (_ : Unit) => True) (kB dC dI [(cA, .int)] (wX0 cA h0 q0 q1 q2 q3 q4 q5 w ce (kx_sh nm lev n) ((kx_fo (kx_tc tl tc (nI (lev - 1)) z) (nI lev) tl tc tw z).2.1) ((kx_fo (kx_tc tl tc (nI (lev - 1)) z) (nI lev) tl tc tw z).2.2.1) ((kx_fo (kx_tc tl tc (nI (lev - 1)) z) (nI lev) tl tc tw z).2.2.2) T (n - 1) ((kx_fo (kx_tc tl tc (nI (lev - 1)) z) (nI lev) tl tc tw z).1) wtc wia off) A) A) ([.ref h0, .int (nI lev)] : List Value).toArray s 0 0 A) (F0 m 13 ls []) := by
    intro k
    induction k with
    | zero =>
      intro t ht H locs ls hP hD hS hl
      refine lv_iload hx hb dX0_foldLevel_13 (lv_at hl 4 rfl) ?_
      refine lv_aload_n hx hb dX0_foldLevel_15 rfl (lv_at hl 0 rfl) ?_
      refine va_get (D := (dC, dI)) (ci := 0) (v := .int (nI z)) (C := RX0) (T := TX0) (N := 12) hx hb hts hin hown hK hP 0 rfl rfl 8 (by decide) (hts (.fieldLink RX0 82 "NestCells" "traces" "I") (by decide +kernel)) (fun _ h9 => h9) rfl dX0_foldLevel_16 ?_
      refine kv_ge (tgt := 118) hx hb (by omega) (by omega) dX0_foldLevel_19 (by decide) (fun h19_0 => ?_) (fun h19_0 => absurd h19_0 (by omega))
      have htz : t = z := by omega
      rw [htz] at hP hD hl
      have hP : va_P (dC, dI) vwCl (wX0 cA h0 q0 q1 q2 q3 q4 q5 w ce nm ((F z).2.1) ((F z).2.2.1) ((F z).2.2.2) T n z wtc wia off) H := by exact hP
      have hD : va_D A (wX0 cA h0 q0 q1 q2 q3 q4 q5 w ce nm ((F z).2.1) ((F z).2.2.1) ((F z).2.2.2) T n z wtc wia off) := by exact hD
      have hl : lv_has ls 5 [(0, .ref h0), (1, .int (nI lev)), (2, .int (kx_tc tl tc (nI (lev - 1)) z)), (3, .int (nI ((F z).1))), (4, .int (nI z))] := by exact hl
      refine lv_aload_n hx hb dX0_foldLevel_118 rfl (lv_at hl 0 rfl) ?_
      refine lv_iload_n hx hb dX0_foldLevel_119 rfl (lv_at hl 3 rfl) ?_
      refine va_put (D := (dC, dI)) (ci := 0) (v := .int (nI ((F z).1))) (ty := .int) (C := RX0) (T := TX0) (N := 12) hx hb hts hin tyX0 tyX0_ok nmX0 hown hK hP hD hS 0 rfl rfl 8 (by decide) (hts (.fieldLink RX0 82 "NestCells" "traces" "I") (by decide +kernel)) (fun _ h9 => h9) rfl (by decide +kernel) rfl rfl (Nat.le_of_ble_eq_true rfl) dX0_foldLevel_120 (fun H locs hP hD hS => ?_)
      have hP : va_P (dC, dI) vwCl (wX0 cA h0 q0 q1 q2 q3 q4 q5 w ce nm ((F z).2.1) ((F z).2.2.1) ((F z).2.2.2) T n ((F z).1) wtc wia off) H := hP
      have hD : va_D A (wX0 cA h0 q0 q1 q2 q3 q4 q5 w ce nm ((F z).2.1) ((F z).2.2.1) ((F z).2.2.2) T n ((F z).1) wtc wia off) := hD
      refine lv_iload_n hx hb dX0_foldLevel_123 rfl (lv_at hl 1 rfl) ?_
      refine lv_iconst (v := (nI 1)) hx hb dX0_foldLevel_124 (by decide) ?_
      refine kv_addE (d := lev + 1) hx hb (by omega) dX0_foldLevel_125 ?_
      refine lv_istore (lv' := [(4, .int (nI (lev + 1))), (0, .ref h0), (1, .int (nI lev)), (2, .int (kx_tc tl tc (nI (lev - 1)) z)), (3, .int (nI ((F z).1)))]) hx hb dX0_foldLevel_126 hl (by decide) rfl (fun ls hl => ?_)
      have hP : va_P (dC, dI) vwCl (wX0 cA h0 q0 q1 q2 q3 q4 q5 w ce (kx_sh nm lev (lev + 1)) ((F z).2.1) ((F z).2.2.1) ((F z).2.2.2) T n ((F z).1) wtc wia off) H := by rw [kx_sh_0]; exact hP
      have hD : va_D A (wX0 cA h0 q0 q1 q2 q3 q4 q5 w ce (kx_sh nm lev (lev + 1)) ((F z).2.1) ((F z).2.2.1) ((F z).2.2.2) T n ((F z).1) wtc wia off) := by rw [kx_sh_0]; exact hD
      have lp : ∀ (k : Nat) (i : Nat), ∀ (_ : i + k = n), ∀ (_ : lev < i), ∀ (H : Heap) (locs : List Loc) (ls : Array Slot), va_P (dC, dI) vwCl (wX0 cA h0 q0 q1 q2 q3 q4 q5 w ce (kx_sh nm lev i) ((F z).2.1) ((F z).2.2.1) ((F z).2.2.2) T n ((F z).1) wtc wia off) H → va_D A (wX0 cA h0 q0 q1 q2 q3 q4 q5 w ce (kx_sh nm lev i) ((F z).2.1) ((F z).2.2.1) ((F z).2.2.2) T n ((F z).1) wtc wia off) → va_S A s.heap H locs → lv_has ls 5 [(0, .ref h0), (1, .int (nI lev)), (4, .int (nI i))] → W p l e (headSpec wsX0_foldLevel ({ frames := 1, cells := 0, slots := 0, locals := 23 })).room s m ([.ref h0, .int (nI lev)] : List Value).toArray below meth c H locs 0 0 (MQ below (va_Qv (fun (_ : Unit) => True) (kB dC dI [(cA, .int)] (wX0 cA h0 q0 q1 q2 q3 q4 q5 w ce (kx_sh nm lev n) ((kx_fo (kx_tc tl tc (nI (lev - 1)) z) (nI lev) tl tc tw z).2.1) ((kx_fo (kx_tc tl tc (nI (lev - 1)) z) (nI lev) tl tc tw z).2.2.1) ((kx_fo (kx_tc tl tc (nI (lev - 1)) z) (nI lev) tl tc tw z).2.2.2) T (n - 1) ((kx_fo (kx_tc tl tc (nI (lev - 1)) z) (nI lev) tl tc tw z).1) wtc wia off) A) A) ([.ref h0, .int (nI lev)] : List Value).toArray s 0 0 A) (F0 m 128 ls []) := by
        intro k
        induction k with
        | zero =>
          intro i hi hi2 H locs ls hP hD hS hl
          refine lv_iload hx hb dX0_foldLevel_128 (lv_at hl 2 rfl) ?_
          refine lv_aload_n hx hb dX0_foldLevel_130 rfl (lv_at hl 0 rfl) ?_
          refine va_get (D := (dC, dI)) (ci := 0) (v := .int (nI n)) (C := RX0) (T := TX0) (N := 12) hx hb hts hin hown hK hP 0 rfl rfl 7 (by decide) (hts (.fieldLink RX0 71 "NestCells" "levels" "I") (by decide +kernel)) (fun _ h9 => h9) rfl dX0_foldLevel_131 ?_
          refine kv_ge (tgt := 159) hx hb (by omega) (by omega) dX0_foldLevel_134 (by decide) (fun h134_0 => ?_) (fun h134_0 => absurd h134_0 (by omega))
          refine lv_aload_n hx hb dX0_foldLevel_159 rfl (lv_at hl 0 rfl) ?_
          refine lv_dup hx hb dX0_foldLevel_160 rfl ?_
          refine va_get (D := (dC, dI)) (ci := 0) (v := .int (nI n)) (C := RX0) (T := TX0) (N := 12) hx hb hts hin hown hK hP 0 rfl rfl 7 (by decide) (hts (.fieldLink RX0 71 "NestCells" "levels" "I") (by decide +kernel)) (fun _ h9 => h9) rfl dX0_foldLevel_161 ?_
          refine lv_iconst (v := (nI 1)) hx hb dX0_foldLevel_164 (by decide) ?_
          refine kv_subE (d := n - 1) hx hb (by omega) dX0_foldLevel_165 ?_
          refine va_put (D := (dC, dI)) (ci := 0) (v := .int (nI (n - 1))) (ty := .int) (C := RX0) (T := TX0) (N := 12) hx hb hts hin tyX0 tyX0_ok nmX0 hown hK hP hD hS 0 rfl rfl 7 (by decide) (hts (.fieldLink RX0 71 "NestCells" "levels" "I") (by decide +kernel)) (fun _ h9 => h9) rfl (by decide +kernel) rfl rfl (Nat.le_of_ble_eq_true rfl) dX0_foldLevel_166 (fun H locs hP hD hS => ?_)
          have hP : va_P (dC, dI) vwCl (wX0 cA h0 q0 q1 q2 q3 q4 q5 w ce (kx_sh nm lev i) ((F z).2.1) ((F z).2.2.1) ((F z).2.2.2) T (n - 1) ((F z).1) wtc wia off) H := hP
          have hD : va_D A (wX0 cA h0 q0 q1 q2 q3 q4 q5 w ce (kx_sh nm lev i) ((F z).2.1) ((F z).2.2.1) ((F z).2.2.2) T (n - 1) ((F z).1) wtc wia off) := hD
          exact kMv_ret hx hb hr hlocks hP hK hD hS dX0_foldLevel_169 (by rw [hF, show i = n by omega])
        | succ k ih =>
          intro i hi hi2 H locs ls hP hD hS hl
          refine lv_iload hx hb dX0_foldLevel_128 (lv_at hl 2 rfl) ?_
          refine lv_aload_n hx hb dX0_foldLevel_130 rfl (lv_at hl 0 rfl) ?_
          refine va_get (D := (dC, dI)) (ci := 0) (v := .int (nI n)) (C := RX0) (T := TX0) (N := 12) hx hb hts hin hown hK hP 0 rfl rfl 7 (by decide) (hts (.fieldLink RX0 71 "NestCells" "levels" "I") (by decide +kernel)) (fun _ h9 => h9) rfl dX0_foldLevel_131 ?_
          refine kv_ge (tgt := 159) hx hb (by omega) (by omega) dX0_foldLevel_134 (by decide) (fun h134_0 => absurd h134_0 (by omega)) (fun h134_0 => ?_)
          refine lv_aload_n hx hb dX0_foldLevel_137 rfl (lv_at hl 0 rfl) ?_
          refine va_get (D := (dC, dI)) (ci := 0) (v := .ref q2) (C := RX0) (T := TX0) (N := 12) hx hb hts hin hown hK hP 0 rfl rfl 2 (by decide) (hts (.fieldLink RX0 16 "NestCells" "levelName" "[I") (by decide +kernel)) (fun _ h9 => h9) rfl dX0_foldLevel_138 ?_
          refine lv_iload hx hb dX0_foldLevel_141 (lv_at hl 2 rfl) ?_
          refine lv_iconst (v := (nI 1)) hx hb dX0_foldLevel_143 (by decide) ?_
          refine kv_subE (d := i - 1) hx hb (by omega) dX0_foldLevel_144 ?_
          refine lv_aload_n hx hb dX0_foldLevel_145 rfl (lv_at hl 0 rfl) ?_
          refine va_get (D := (dC, dI)) (ci := 0) (v := .ref q2) (C := RX0) (T := TX0) (N := 12) hx hb hts hin hown hK hP 0 rfl rfl 2 (by decide) (hts (.fieldLink RX0 16 "NestCells" "levelName" "[I") (by decide +kernel)) (fun _ h9 => h9) rfl dX0_foldLevel_146 ?_
          refine lv_iload hx hb dX0_foldLevel_149 (lv_at hl 2 rfl) ?_
          refine kv_iald hx hb hK hP 3 0 rfl rfl (by omega) (by omega) dX0_foldLevel_151 ?_
          refine kv_iast hx hb hK hP hD hS 3 0 rfl rfl (by omega) (by omega) dX0_foldLevel_152 (fun H locs hP hD hS => ?_)
          have hP : va_P (dC, dI) vwCl (wX0 cA h0 q0 q1 q2 q3 q4 q5 w ce (upd (kx_sh nm lev i) (i - 1) ((kx_sh nm lev i) i)) ((F z).2.1) ((F z).2.2.1) ((F z).2.2.2) T n ((F z).1) wtc wia off) H := hP
          have hD : va_D A (wX0 cA h0 q0 q1 q2 q3 q4 q5 w ce (upd (kx_sh nm lev i) (i - 1) ((kx_sh nm lev i) i)) ((F z).2.1) ((F z).2.2.1) ((F z).2.2.2) T n ((F z).1) wtc wia off) := hD
          refine lv_iinc (v := (nI (i + 1))) (lv' := [(4, .int (nI (i + 1))), (0, .ref h0), (1, .int (nI lev))]) hx hb dX0_foldLevel_153 hl (k := 2) rfl (kv_inc _ 1 (by decide)) (by decide) rfl (fun ls hl => ?_)
          refine lv_goto (tgt := 128) hx hb dX0_foldLevel_156 (by decide) ?_
          have hP : va_P (dC, dI) vwCl (wX0 cA h0 q0 q1 q2 q3 q4 q5 w ce (kx_sh nm lev (i + 1)) ((F z).2.1) ((F z).2.2.1) ((F z).2.2.2) T n ((F z).1) wtc wia off) H := by rw [← kx_sh_s _ _ _ (by omega)]; exact hP
          have hD : va_D A (wX0 cA h0 q0 q1 q2 q3 q4 q5 w ce (kx_sh nm lev (i + 1)) ((F z).2.1) ((F z).2.2.1) ((F z).2.2.2) T n ((F z).1) wtc wia off) := by rw [← kx_sh_s _ _ _ (by omega)]; exact hD
          exact ih (i + 1) (by omega) (by omega) _ _ _ hP hD hS (lv_sub hl [1, 2, 0] rfl)
      exact lp (n - (lev + 1)) (lev + 1) (by omega) (by omega) _ _ _ hP hD hS (lv_sub hl [1, 2, 0] rfl)
    | succ k ih =>
      intro t ht H locs ls hP hD hS hl
      have hkt := hFl t
      refine lv_iload hx hb dX0_foldLevel_13 (lv_at hl 4 rfl) ?_
      refine lv_aload_n hx hb dX0_foldLevel_15 rfl (lv_at hl 0 rfl) ?_
      refine va_get (D := (dC, dI)) (ci := 0) (v := .int (nI z)) (C := RX0) (T := TX0) (N := 12) hx hb hts hin hown hK hP 0 rfl rfl 8 (by decide) (hts (.fieldLink RX0 82 "NestCells" "traces" "I") (by decide +kernel)) (fun _ h9 => h9) rfl dX0_foldLevel_16 ?_
      refine kv_ge (tgt := 118) hx hb (by omega) (by omega) dX0_foldLevel_19 (by decide) (fun h19_0 => absurd h19_0 (by omega)) (fun h19_0 => ?_)
      refine lv_aload_n hx hb dX0_foldLevel_22 rfl (lv_at hl 0 rfl) ?_
      refine va_get (D := (dC, dI)) (ci := 0) (v := .ref q3) (C := RX0) (T := TX0) (N := 12) hx hb hts hin hown hK hP 0 rfl rfl 3 (by decide) (hts (.fieldLink RX0 19 "NestCells" "traceLevel" "[I") (by decide +kernel)) (fun _ h9 => h9) rfl dX0_foldLevel_23 ?_
      refine lv_iload hx hb dX0_foldLevel_26 (lv_at hl 4 rfl) ?_
      refine kv_iald hx hb hK hP 4 0 rfl rfl (by omega) (by omega) dX0_foldLevel_28 ?_
      refine lv_iload_n hx hb dX0_foldLevel_29 rfl (lv_at hl 1 rfl) ?_
      refine lv_icmp_ne (tgt := 47) hx hb dX0_foldLevel_30 (by decide) (fun h30_0 => ?_) (fun h30_0 => ?_)
      · skip
        refine lv_aload_n hx hb dX0_foldLevel_47 rfl (lv_at hl 0 rfl) ?_
        refine va_get (D := (dC, dI)) (ci := 0) (v := .ref q3) (C := RX0) (T := TX0) (N := 12) hx hb hts hin hown hK hP 0 rfl rfl 3 (by decide) (hts (.fieldLink RX0 19 "NestCells" "traceLevel" "[I") (by decide +kernel)) (fun _ h9 => h9) rfl dX0_foldLevel_48 ?_
        refine lv_iload_n hx hb dX0_foldLevel_51 rfl (lv_at hl 3 rfl) ?_
        refine lv_aload_n hx hb dX0_foldLevel_52 rfl (lv_at hl 0 rfl) ?_
        refine va_get (D := (dC, dI)) (ci := 0) (v := .ref q3) (C := RX0) (T := TX0) (N := 12) hx hb hts hin hown hK hP 0 rfl rfl 3 (by decide) (hts (.fieldLink RX0 19 "NestCells" "traceLevel" "[I") (by decide +kernel)) (fun _ h9 => h9) rfl dX0_foldLevel_53 ?_
        refine lv_iload hx hb dX0_foldLevel_56 (lv_at hl 4 rfl) ?_
        refine kv_iald hx hb hK hP 4 0 rfl rfl (by omega) (by omega) dX0_foldLevel_58 ?_
        refine lv_iload_n hx hb dX0_foldLevel_59 rfl (lv_at hl 1 rfl) ?_
        refine lv_icmp_ge (tgt := 73) hx hb dX0_foldLevel_60 (by decide) (fun h60_1 => ?_) (fun h60_1 => ?_)
        · skip
          refine lv_aload_n hx hb dX0_foldLevel_73 rfl (lv_at hl 0 rfl) ?_
          refine va_get (D := (dC, dI)) (ci := 0) (v := .ref q3) (C := RX0) (T := TX0) (N := 12) hx hb hts hin hown hK hP 0 rfl rfl 3 (by decide) (hts (.fieldLink RX0 19 "NestCells" "traceLevel" "[I") (by decide +kernel)) (fun _ h9 => h9) rfl dX0_foldLevel_74 ?_
          refine lv_iload hx hb dX0_foldLevel_77 (lv_at hl 4 rfl) ?_
          refine kv_iald hx hb hK hP 4 0 rfl rfl (by omega) (by omega) dX0_foldLevel_79 ?_
          refine lv_iconst (v := (nI 1)) hx hb dX0_foldLevel_80 (by decide) ?_
          refine lv_isub hx hb dX0_foldLevel_81 ?_
          refine kv_iast hx hb hK hP hD hS 4 0 rfl rfl (by omega) (by omega) dX0_foldLevel_82 (fun H locs hP hD hS => ?_)
          have hP : va_P (dC, dI) vwCl (wX0 cA h0 q0 q1 q2 q3 q4 q5 w ce nm (upd ((F t).2.1) ((F t).1) ((((F t).2.1) t) - (nI 1))) ((F t).2.2.1) ((F t).2.2.2) T n z wtc wia off) H := hP
          have hD : va_D A (wX0 cA h0 q0 q1 q2 q3 q4 q5 w ce nm (upd ((F t).2.1) ((F t).1) ((((F t).2.1) t) - (nI 1))) ((F t).2.2.1) ((F t).2.2.2) T n z wtc wia off) := hD
          refine lv_aload_n hx hb dX0_foldLevel_83 rfl (lv_at hl 0 rfl) ?_
          refine va_get (D := (dC, dI)) (ci := 0) (v := .ref q4) (C := RX0) (T := TX0) (N := 12) hx hb hts hin hown hK hP 0 rfl rfl 4 (by decide) (hts (.fieldLink RX0 22 "NestCells" "traceCell" "[I") (by decide +kernel)) (fun _ h9 => h9) rfl dX0_foldLevel_84 ?_
          refine lv_iload_n hx hb dX0_foldLevel_87 rfl (lv_at hl 3 rfl) ?_
          refine lv_aload_n hx hb dX0_foldLevel_88 rfl (lv_at hl 0 rfl) ?_
          refine va_get (D := (dC, dI)) (ci := 0) (v := .ref q4) (C := RX0) (T := TX0) (N := 12) hx hb hts hin hown hK hP 0 rfl rfl 4 (by decide) (hts (.fieldLink RX0 22 "NestCells" "traceCell" "[I") (by decide +kernel)) (fun _ h9 => h9) rfl dX0_foldLevel_89 ?_
          refine lv_iload hx hb dX0_foldLevel_92 (lv_at hl 4 rfl) ?_
          refine kv_iald hx hb hK hP 5 0 rfl rfl (by omega) (by omega) dX0_foldLevel_94 ?_
          refine kv_iast hx hb hK hP hD hS 5 0 rfl rfl (by omega) (by omega) dX0_foldLevel_95 (fun H locs hP hD hS => ?_)
          have hP : va_P (dC, dI) vwCl (wX0 cA h0 q0 q1 q2 q3 q4 q5 w ce nm (upd ((F t).2.1) ((F t).1) ((((F t).2.1) t) - (nI 1))) (upd ((F t).2.2.1) ((F t).1) (((F t).2.2.1) t)) ((F t).2.2.2) T n z wtc wia off) H := hP
          have hD : va_D A (wX0 cA h0 q0 q1 q2 q3 q4 q5 w ce nm (upd ((F t).2.1) ((F t).1) ((((F t).2.1) t) - (nI 1))) (upd ((F t).2.2.1) ((F t).1) (((F t).2.2.1) t)) ((F t).2.2.2) T n z wtc wia off) := hD
          refine lv_aload_n hx hb dX0_foldLevel_96 rfl (lv_at hl 0 rfl) ?_
          refine va_get (D := (dC, dI)) (ci := 0) (v := .ref q5) (C := RX0) (T := TX0) (N := 12) hx hb hts hin hown hK hP 0 rfl rfl 5 (by decide) (hts (.fieldLink RX0 25 "NestCells" "traceWas" "[I") (by decide +kernel)) (fun _ h9 => h9) rfl dX0_foldLevel_97 ?_
          refine lv_iload_n hx hb dX0_foldLevel_100 rfl (lv_at hl 3 rfl) ?_
          refine lv_aload_n hx hb dX0_foldLevel_101 rfl (lv_at hl 0 rfl) ?_
          refine va_get (D := (dC, dI)) (ci := 0) (v := .ref q5) (C := RX0) (T := TX0) (N := 12) hx hb hts hin hown hK hP 0 rfl rfl 5 (by decide) (hts (.fieldLink RX0 25 "NestCells" "traceWas" "[I") (by decide +kernel)) (fun _ h9 => h9) rfl dX0_foldLevel_102 ?_
          refine lv_iload hx hb dX0_foldLevel_105 (lv_at hl 4 rfl) ?_
          refine kv_iald hx hb hK hP 6 0 rfl rfl (by omega) (by omega) dX0_foldLevel_107 ?_
          refine kv_iast hx hb hK hP hD hS 6 0 rfl rfl (by omega) (by omega) dX0_foldLevel_108 (fun H locs hP hD hS => ?_)
          have hP : va_P (dC, dI) vwCl (wX0 cA h0 q0 q1 q2 q3 q4 q5 w ce nm (upd ((F t).2.1) ((F t).1) ((((F t).2.1) t) - (nI 1))) (upd ((F t).2.2.1) ((F t).1) (((F t).2.2.1) t)) (upd ((F t).2.2.2) ((F t).1) (((F t).2.2.2) t)) T n z wtc wia off) H := hP
          have hD : va_D A (wX0 cA h0 q0 q1 q2 q3 q4 q5 w ce nm (upd ((F t).2.1) ((F t).1) ((((F t).2.1) t) - (nI 1))) (upd ((F t).2.2.1) ((F t).1) (((F t).2.2.1) t)) (upd ((F t).2.2.2) ((F t).1) (((F t).2.2.2) t)) T n z wtc wia off) := hD
          refine lv_iinc (v := (nI (((F t).1) + 1))) (lv' := [(3, .int (nI (((F t).1) + 1))), (0, .ref h0), (1, .int (nI lev)), (2, .int (kx_tc tl tc (nI (lev - 1)) z)), (4, .int (nI t))]) hx hb dX0_foldLevel_109 hl (k := 3) rfl (kv_inc _ 1 (by decide)) (by decide) rfl (fun ls hl => ?_)
          refine lv_iinc (v := (nI (t + 1))) (lv' := [(4, .int (nI (t + 1))), (3, .int (nI (((F t).1) + 1))), (0, .ref h0), (1, .int (nI lev)), (2, .int (kx_tc tl tc (nI (lev - 1)) z))]) hx hb dX0_foldLevel_112 hl (k := 4) rfl (kv_inc _ 1 (by decide)) (by decide) rfl (fun ls hl => ?_)
          refine lv_goto (tgt := 13) hx hb dX0_foldLevel_115 (by decide) ?_
          have e1 : F (t + 1) = ((F t).1 + 1, upd ((F t).2.1) ((F t).1) ((((F t).2.1) t) - (nI 1)), upd ((F t).2.2.1) ((F t).1) (((F t).2.2.1) t), upd ((F t).2.2.2) ((F t).1) (((F t).2.2.2) t)) := by rw [hFs, if_neg (fun q => h30_0 q.1), if_pos h60_1]
          have hP : va_P (dC, dI) vwCl (wX0 cA h0 q0 q1 q2 q3 q4 q5 w ce nm ((F (t + 1)).2.1) ((F (t + 1)).2.2.1) ((F (t + 1)).2.2.2) T n z wtc wia off) H := by rw [e1]; exact hP
          have hD : va_D A (wX0 cA h0 q0 q1 q2 q3 q4 q5 w ce nm ((F (t + 1)).2.1) ((F (t + 1)).2.2.1) ((F (t + 1)).2.2.2) T n z wtc wia off) := by rw [e1]; exact hD
          have hl : lv_has ls 5 [(4, .int (nI (t + 1))), (3, .int (nI ((F (t + 1)).1))), (0, .ref h0), (1, .int (nI lev)), (2, .int (kx_tc tl tc (nI (lev - 1)) z))] := by rw [e1]; exact hl
          exact ih (t + 1) (by omega) _ _ _ hP hD hS (lv_sub hl [2, 3, 4, 1, 0] rfl)
        · skip
          refine lv_aload_n hx hb dX0_foldLevel_63 rfl (lv_at hl 0 rfl) ?_
          refine va_get (D := (dC, dI)) (ci := 0) (v := .ref q3) (C := RX0) (T := TX0) (N := 12) hx hb hts hin hown hK hP 0 rfl rfl 3 (by decide) (hts (.fieldLink RX0 19 "NestCells" "traceLevel" "[I") (by decide +kernel)) (fun _ h9 => h9) rfl dX0_foldLevel_64 ?_
          refine lv_iload hx hb dX0_foldLevel_67 (lv_at hl 4 rfl) ?_
          refine kv_iald hx hb hK hP 4 0 rfl rfl (by omega) (by omega) dX0_foldLevel_69 ?_
          refine lv_goto (tgt := 82) hx hb dX0_foldLevel_70 (by decide) ?_
          refine kv_iast hx hb hK hP hD hS 4 0 rfl rfl (by omega) (by omega) dX0_foldLevel_82 (fun H locs hP hD hS => ?_)
          have hP : va_P (dC, dI) vwCl (wX0 cA h0 q0 q1 q2 q3 q4 q5 w ce nm (upd ((F t).2.1) ((F t).1) (((F t).2.1) t)) ((F t).2.2.1) ((F t).2.2.2) T n z wtc wia off) H := hP
          have hD : va_D A (wX0 cA h0 q0 q1 q2 q3 q4 q5 w ce nm (upd ((F t).2.1) ((F t).1) (((F t).2.1) t)) ((F t).2.2.1) ((F t).2.2.2) T n z wtc wia off) := hD
          refine lv_aload_n hx hb dX0_foldLevel_83 rfl (lv_at hl 0 rfl) ?_
          refine va_get (D := (dC, dI)) (ci := 0) (v := .ref q4) (C := RX0) (T := TX0) (N := 12) hx hb hts hin hown hK hP 0 rfl rfl 4 (by decide) (hts (.fieldLink RX0 22 "NestCells" "traceCell" "[I") (by decide +kernel)) (fun _ h9 => h9) rfl dX0_foldLevel_84 ?_
          refine lv_iload_n hx hb dX0_foldLevel_87 rfl (lv_at hl 3 rfl) ?_
          refine lv_aload_n hx hb dX0_foldLevel_88 rfl (lv_at hl 0 rfl) ?_
          refine va_get (D := (dC, dI)) (ci := 0) (v := .ref q4) (C := RX0) (T := TX0) (N := 12) hx hb hts hin hown hK hP 0 rfl rfl 4 (by decide) (hts (.fieldLink RX0 22 "NestCells" "traceCell" "[I") (by decide +kernel)) (fun _ h9 => h9) rfl dX0_foldLevel_89 ?_
          refine lv_iload hx hb dX0_foldLevel_92 (lv_at hl 4 rfl) ?_
          refine kv_iald hx hb hK hP 5 0 rfl rfl (by omega) (by omega) dX0_foldLevel_94 ?_
          refine kv_iast hx hb hK hP hD hS 5 0 rfl rfl (by omega) (by omega) dX0_foldLevel_95 (fun H locs hP hD hS => ?_)
          have hP : va_P (dC, dI) vwCl (wX0 cA h0 q0 q1 q2 q3 q4 q5 w ce nm (upd ((F t).2.1) ((F t).1) (((F t).2.1) t)) (upd ((F t).2.2.1) ((F t).1) (((F t).2.2.1) t)) ((F t).2.2.2) T n z wtc wia off) H := hP
          have hD : va_D A (wX0 cA h0 q0 q1 q2 q3 q4 q5 w ce nm (upd ((F t).2.1) ((F t).1) (((F t).2.1) t)) (upd ((F t).2.2.1) ((F t).1) (((F t).2.2.1) t)) ((F t).2.2.2) T n z wtc wia off) := hD
          refine lv_aload_n hx hb dX0_foldLevel_96 rfl (lv_at hl 0 rfl) ?_
          refine va_get (D := (dC, dI)) (ci := 0) (v := .ref q5) (C := RX0) (T := TX0) (N := 12) hx hb hts hin hown hK hP 0 rfl rfl 5 (by decide) (hts (.fieldLink RX0 25 "NestCells" "traceWas" "[I") (by decide +kernel)) (fun _ h9 => h9) rfl dX0_foldLevel_97 ?_
          refine lv_iload_n hx hb dX0_foldLevel_100 rfl (lv_at hl 3 rfl) ?_
          refine lv_aload_n hx hb dX0_foldLevel_101 rfl (lv_at hl 0 rfl) ?_
          refine va_get (D := (dC, dI)) (ci := 0) (v := .ref q5) (C := RX0) (T := TX0) (N := 12) hx hb hts hin hown hK hP 0 rfl rfl 5 (by decide) (hts (.fieldLink RX0 25 "NestCells" "traceWas" "[I") (by decide +kernel)) (fun _ h9 => h9) rfl dX0_foldLevel_102 ?_
          refine lv_iload hx hb dX0_foldLevel_105 (lv_at hl 4 rfl) ?_
          refine kv_iald hx hb hK hP 6 0 rfl rfl (by omega) (by omega) dX0_foldLevel_107 ?_
          refine kv_iast hx hb hK hP hD hS 6 0 rfl rfl (by omega) (by omega) dX0_foldLevel_108 (fun H locs hP hD hS => ?_)
          have hP : va_P (dC, dI) vwCl (wX0 cA h0 q0 q1 q2 q3 q4 q5 w ce nm (upd ((F t).2.1) ((F t).1) (((F t).2.1) t)) (upd ((F t).2.2.1) ((F t).1) (((F t).2.2.1) t)) (upd ((F t).2.2.2) ((F t).1) (((F t).2.2.2) t)) T n z wtc wia off) H := hP
          have hD : va_D A (wX0 cA h0 q0 q1 q2 q3 q4 q5 w ce nm (upd ((F t).2.1) ((F t).1) (((F t).2.1) t)) (upd ((F t).2.2.1) ((F t).1) (((F t).2.2.1) t)) (upd ((F t).2.2.2) ((F t).1) (((F t).2.2.2) t)) T n z wtc wia off) := hD
          refine lv_iinc (v := (nI (((F t).1) + 1))) (lv' := [(3, .int (nI (((F t).1) + 1))), (0, .ref h0), (1, .int (nI lev)), (2, .int (kx_tc tl tc (nI (lev - 1)) z)), (4, .int (nI t))]) hx hb dX0_foldLevel_109 hl (k := 3) rfl (kv_inc _ 1 (by decide)) (by decide) rfl (fun ls hl => ?_)
          refine lv_iinc (v := (nI (t + 1))) (lv' := [(4, .int (nI (t + 1))), (3, .int (nI (((F t).1) + 1))), (0, .ref h0), (1, .int (nI lev)), (2, .int (kx_tc tl tc (nI (lev - 1)) z))]) hx hb dX0_foldLevel_112 hl (k := 4) rfl (kv_inc _ 1 (by decide)) (by decide) rfl (fun ls hl => ?_)
          refine lv_goto (tgt := 13) hx hb dX0_foldLevel_115 (by decide) ?_
          have e1 : F (t + 1) = ((F t).1 + 1, upd ((F t).2.1) ((F t).1) (((F t).2.1) t), upd ((F t).2.2.1) ((F t).1) (((F t).2.2.1) t), upd ((F t).2.2.2) ((F t).1) (((F t).2.2.2) t)) := by rw [hFs, if_neg (fun q => h30_0 q.1), if_neg h60_1]
          have hP : va_P (dC, dI) vwCl (wX0 cA h0 q0 q1 q2 q3 q4 q5 w ce nm ((F (t + 1)).2.1) ((F (t + 1)).2.2.1) ((F (t + 1)).2.2.2) T n z wtc wia off) H := by rw [e1]; exact hP
          have hD : va_D A (wX0 cA h0 q0 q1 q2 q3 q4 q5 w ce nm ((F (t + 1)).2.1) ((F (t + 1)).2.2.1) ((F (t + 1)).2.2.2) T n z wtc wia off) := by rw [e1]; exact hD
          have hl : lv_has ls 5 [(4, .int (nI (t + 1))), (3, .int (nI ((F (t + 1)).1))), (0, .ref h0), (1, .int (nI lev)), (2, .int (kx_tc tl tc (nI (lev - 1)) z))] := by rw [e1]; exact hl
          exact ih (t + 1) (by omega) _ _ _ hP hD hS (lv_sub hl [2, 3, 4, 1, 0] rfl)
      · skip
        refine lv_iload_n hx hb dX0_foldLevel_33 rfl (lv_at hl 2 rfl) ?_
        refine lv_aload_n hx hb dX0_foldLevel_34 rfl (lv_at hl 0 rfl) ?_
        refine va_get (D := (dC, dI)) (ci := 0) (v := .ref q4) (C := RX0) (T := TX0) (N := 12) hx hb hts hin hown hK hP 0 rfl rfl 4 (by decide) (hts (.fieldLink RX0 22 "NestCells" "traceCell" "[I") (by decide +kernel)) (fun _ h9 => h9) rfl dX0_foldLevel_35 ?_
        refine lv_iload hx hb dX0_foldLevel_38 (lv_at hl 4 rfl) ?_
        refine kv_iald hx hb hK hP 5 0 rfl rfl (by omega) (by omega) dX0_foldLevel_40 ?_
        refine kv_Si (Xr := wX0 cA h0 q0 q1 q2 q3 q4 q5 w ce nm ((F t).2.1) ((F t).2.2.1) ((F t).2.2.2) T n z wtc wia off) (n := 2) (c_X0_holds l dC dI   (kx_tc tl tc (nI (lev - 1)) z) (((F t).2.2.1) t) ) hx hb hml hown hts gX0_foldLevel_X0_holds rfl ⟨rfl, rfl⟩ (by decide +kernel) rfl ⟨Nat.le_of_ble_eq_true rfl, Nat.le_of_ble_eq_true rfl⟩ hK hP hD hS hA [] [] [0, 1, 2, 3, 4, 5, 6] rfl rfl rfl (by decide) (by decide) rfl (by decide) hl.1 rfl (Nat.le_of_ble_eq_true rfl) dX0_foldLevel_41 ⟨Nat.zero_le _, Nat.zero_le _⟩ (fun H locs hP hD hS => ?_)
        have hP : va_P (dC, dI) vwCl (wX0 cA h0 q0 q1 q2 q3 q4 q5 w ce nm ((F t).2.1) ((F t).2.2.1) ((F t).2.2.2) T n z wtc wia off) H := hP
        have hD : va_D A (wX0 cA h0 q0 q1 q2 q3 q4 q5 w ce nm ((F t).2.1) ((F t).2.2.1) ((F t).2.2.2) T n z wtc wia off) := hD
        refine lv_if_ne (tgt := 112) hx hb dX0_foldLevel_44 (by decide) (fun h44_1 => ?_) (fun h44_1 => ?_)
        · skip
          refine lv_iinc (v := (nI (t + 1))) (lv' := [(4, .int (nI (t + 1))), (0, .ref h0), (1, .int (nI lev)), (2, .int (kx_tc tl tc (nI (lev - 1)) z)), (3, .int (nI ((F t).1)))]) hx hb dX0_foldLevel_112 hl (k := 4) rfl (kv_inc _ 1 (by decide)) (by decide) rfl (fun ls hl => ?_)
          refine lv_goto (tgt := 13) hx hb dX0_foldLevel_115 (by decide) ?_
          have e1 : F (t + 1) = F t := by rw [hFs, if_pos ⟨h30_0, h44_1⟩]
          have hP : va_P (dC, dI) vwCl (wX0 cA h0 q0 q1 q2 q3 q4 q5 w ce nm ((F (t + 1)).2.1) ((F (t + 1)).2.2.1) ((F (t + 1)).2.2.2) T n z wtc wia off) H := by rw [e1]; exact hP
          have hD : va_D A (wX0 cA h0 q0 q1 q2 q3 q4 q5 w ce nm ((F (t + 1)).2.1) ((F (t + 1)).2.2.1) ((F (t + 1)).2.2.2) T n z wtc wia off) := by rw [e1]; exact hD
          have hl : lv_has ls 5 [(4, .int (nI (t + 1))), (0, .ref h0), (1, .int (nI lev)), (2, .int (kx_tc tl tc (nI (lev - 1)) z)), (3, .int (nI ((F (t + 1)).1)))] := by rw [e1]; exact hl
          exact ih (t + 1) (by omega) _ _ _ hP hD hS (lv_sub hl [1, 2, 3, 4, 0] rfl)
        · skip
          refine lv_aload_n hx hb dX0_foldLevel_47 rfl (lv_at hl 0 rfl) ?_
          refine va_get (D := (dC, dI)) (ci := 0) (v := .ref q3) (C := RX0) (T := TX0) (N := 12) hx hb hts hin hown hK hP 0 rfl rfl 3 (by decide) (hts (.fieldLink RX0 19 "NestCells" "traceLevel" "[I") (by decide +kernel)) (fun _ h9 => h9) rfl dX0_foldLevel_48 ?_
          refine lv_iload_n hx hb dX0_foldLevel_51 rfl (lv_at hl 3 rfl) ?_
          refine lv_aload_n hx hb dX0_foldLevel_52 rfl (lv_at hl 0 rfl) ?_
          refine va_get (D := (dC, dI)) (ci := 0) (v := .ref q3) (C := RX0) (T := TX0) (N := 12) hx hb hts hin hown hK hP 0 rfl rfl 3 (by decide) (hts (.fieldLink RX0 19 "NestCells" "traceLevel" "[I") (by decide +kernel)) (fun _ h9 => h9) rfl dX0_foldLevel_53 ?_
          refine lv_iload hx hb dX0_foldLevel_56 (lv_at hl 4 rfl) ?_
          refine kv_iald hx hb hK hP 4 0 rfl rfl (by omega) (by omega) dX0_foldLevel_58 ?_
          refine lv_iload_n hx hb dX0_foldLevel_59 rfl (lv_at hl 1 rfl) ?_
          refine lv_icmp_ge (tgt := 73) hx hb dX0_foldLevel_60 (by decide) (fun h60_2 => ?_) (fun h60_2 => ?_)
          · skip
            refine lv_aload_n hx hb dX0_foldLevel_73 rfl (lv_at hl 0 rfl) ?_
            refine va_get (D := (dC, dI)) (ci := 0) (v := .ref q3) (C := RX0) (T := TX0) (N := 12) hx hb hts hin hown hK hP 0 rfl rfl 3 (by decide) (hts (.fieldLink RX0 19 "NestCells" "traceLevel" "[I") (by decide +kernel)) (fun _ h9 => h9) rfl dX0_foldLevel_74 ?_
            refine lv_iload hx hb dX0_foldLevel_77 (lv_at hl 4 rfl) ?_
            refine kv_iald hx hb hK hP 4 0 rfl rfl (by omega) (by omega) dX0_foldLevel_79 ?_
            refine lv_iconst (v := (nI 1)) hx hb dX0_foldLevel_80 (by decide) ?_
            refine lv_isub hx hb dX0_foldLevel_81 ?_
            refine kv_iast hx hb hK hP hD hS 4 0 rfl rfl (by omega) (by omega) dX0_foldLevel_82 (fun H locs hP hD hS => ?_)
            have hP : va_P (dC, dI) vwCl (wX0 cA h0 q0 q1 q2 q3 q4 q5 w ce nm (upd ((F t).2.1) ((F t).1) ((((F t).2.1) t) - (nI 1))) ((F t).2.2.1) ((F t).2.2.2) T n z wtc wia off) H := hP
            have hD : va_D A (wX0 cA h0 q0 q1 q2 q3 q4 q5 w ce nm (upd ((F t).2.1) ((F t).1) ((((F t).2.1) t) - (nI 1))) ((F t).2.2.1) ((F t).2.2.2) T n z wtc wia off) := hD
            refine lv_aload_n hx hb dX0_foldLevel_83 rfl (lv_at hl 0 rfl) ?_
            refine va_get (D := (dC, dI)) (ci := 0) (v := .ref q4) (C := RX0) (T := TX0) (N := 12) hx hb hts hin hown hK hP 0 rfl rfl 4 (by decide) (hts (.fieldLink RX0 22 "NestCells" "traceCell" "[I") (by decide +kernel)) (fun _ h9 => h9) rfl dX0_foldLevel_84 ?_
            refine lv_iload_n hx hb dX0_foldLevel_87 rfl (lv_at hl 3 rfl) ?_
            refine lv_aload_n hx hb dX0_foldLevel_88 rfl (lv_at hl 0 rfl) ?_
            refine va_get (D := (dC, dI)) (ci := 0) (v := .ref q4) (C := RX0) (T := TX0) (N := 12) hx hb hts hin hown hK hP 0 rfl rfl 4 (by decide) (hts (.fieldLink RX0 22 "NestCells" "traceCell" "[I") (by decide +kernel)) (fun _ h9 => h9) rfl dX0_foldLevel_89 ?_
            refine lv_iload hx hb dX0_foldLevel_92 (lv_at hl 4 rfl) ?_
            refine kv_iald hx hb hK hP 5 0 rfl rfl (by omega) (by omega) dX0_foldLevel_94 ?_
            refine kv_iast hx hb hK hP hD hS 5 0 rfl rfl (by omega) (by omega) dX0_foldLevel_95 (fun H locs hP hD hS => ?_)
            have hP : va_P (dC, dI) vwCl (wX0 cA h0 q0 q1 q2 q3 q4 q5 w ce nm (upd ((F t).2.1) ((F t).1) ((((F t).2.1) t) - (nI 1))) (upd ((F t).2.2.1) ((F t).1) (((F t).2.2.1) t)) ((F t).2.2.2) T n z wtc wia off) H := hP
            have hD : va_D A (wX0 cA h0 q0 q1 q2 q3 q4 q5 w ce nm (upd ((F t).2.1) ((F t).1) ((((F t).2.1) t) - (nI 1))) (upd ((F t).2.2.1) ((F t).1) (((F t).2.2.1) t)) ((F t).2.2.2) T n z wtc wia off) := hD
            refine lv_aload_n hx hb dX0_foldLevel_96 rfl (lv_at hl 0 rfl) ?_
            refine va_get (D := (dC, dI)) (ci := 0) (v := .ref q5) (C := RX0) (T := TX0) (N := 12) hx hb hts hin hown hK hP 0 rfl rfl 5 (by decide) (hts (.fieldLink RX0 25 "NestCells" "traceWas" "[I") (by decide +kernel)) (fun _ h9 => h9) rfl dX0_foldLevel_97 ?_
            refine lv_iload_n hx hb dX0_foldLevel_100 rfl (lv_at hl 3 rfl) ?_
            refine lv_aload_n hx hb dX0_foldLevel_101 rfl (lv_at hl 0 rfl) ?_
            refine va_get (D := (dC, dI)) (ci := 0) (v := .ref q5) (C := RX0) (T := TX0) (N := 12) hx hb hts hin hown hK hP 0 rfl rfl 5 (by decide) (hts (.fieldLink RX0 25 "NestCells" "traceWas" "[I") (by decide +kernel)) (fun _ h9 => h9) rfl dX0_foldLevel_102 ?_
            refine lv_iload hx hb dX0_foldLevel_105 (lv_at hl 4 rfl) ?_
            refine kv_iald hx hb hK hP 6 0 rfl rfl (by omega) (by omega) dX0_foldLevel_107 ?_
            refine kv_iast hx hb hK hP hD hS 6 0 rfl rfl (by omega) (by omega) dX0_foldLevel_108 (fun H locs hP hD hS => ?_)
            have hP : va_P (dC, dI) vwCl (wX0 cA h0 q0 q1 q2 q3 q4 q5 w ce nm (upd ((F t).2.1) ((F t).1) ((((F t).2.1) t) - (nI 1))) (upd ((F t).2.2.1) ((F t).1) (((F t).2.2.1) t)) (upd ((F t).2.2.2) ((F t).1) (((F t).2.2.2) t)) T n z wtc wia off) H := hP
            have hD : va_D A (wX0 cA h0 q0 q1 q2 q3 q4 q5 w ce nm (upd ((F t).2.1) ((F t).1) ((((F t).2.1) t) - (nI 1))) (upd ((F t).2.2.1) ((F t).1) (((F t).2.2.1) t)) (upd ((F t).2.2.2) ((F t).1) (((F t).2.2.2) t)) T n z wtc wia off) := hD
            refine lv_iinc (v := (nI (((F t).1) + 1))) (lv' := [(3, .int (nI (((F t).1) + 1))), (0, .ref h0), (1, .int (nI lev)), (2, .int (kx_tc tl tc (nI (lev - 1)) z)), (4, .int (nI t))]) hx hb dX0_foldLevel_109 hl (k := 3) rfl (kv_inc _ 1 (by decide)) (by decide) rfl (fun ls hl => ?_)
            refine lv_iinc (v := (nI (t + 1))) (lv' := [(4, .int (nI (t + 1))), (3, .int (nI (((F t).1) + 1))), (0, .ref h0), (1, .int (nI lev)), (2, .int (kx_tc tl tc (nI (lev - 1)) z))]) hx hb dX0_foldLevel_112 hl (k := 4) rfl (kv_inc _ 1 (by decide)) (by decide) rfl (fun ls hl => ?_)
            refine lv_goto (tgt := 13) hx hb dX0_foldLevel_115 (by decide) ?_
            have e1 : F (t + 1) = ((F t).1 + 1, upd ((F t).2.1) ((F t).1) ((((F t).2.1) t) - (nI 1)), upd ((F t).2.2.1) ((F t).1) (((F t).2.2.1) t), upd ((F t).2.2.2) ((F t).1) (((F t).2.2.2) t)) := by rw [hFs, if_neg (fun q => q.2 h44_1), if_pos h60_2]
            have hP : va_P (dC, dI) vwCl (wX0 cA h0 q0 q1 q2 q3 q4 q5 w ce nm ((F (t + 1)).2.1) ((F (t + 1)).2.2.1) ((F (t + 1)).2.2.2) T n z wtc wia off) H := by rw [e1]; exact hP
            have hD : va_D A (wX0 cA h0 q0 q1 q2 q3 q4 q5 w ce nm ((F (t + 1)).2.1) ((F (t + 1)).2.2.1) ((F (t + 1)).2.2.2) T n z wtc wia off) := by rw [e1]; exact hD
            have hl : lv_has ls 5 [(4, .int (nI (t + 1))), (3, .int (nI ((F (t + 1)).1))), (0, .ref h0), (1, .int (nI lev)), (2, .int (kx_tc tl tc (nI (lev - 1)) z))] := by rw [e1]; exact hl
            exact ih (t + 1) (by omega) _ _ _ hP hD hS (lv_sub hl [2, 3, 4, 1, 0] rfl)
          · skip
            refine lv_aload_n hx hb dX0_foldLevel_63 rfl (lv_at hl 0 rfl) ?_
            refine va_get (D := (dC, dI)) (ci := 0) (v := .ref q3) (C := RX0) (T := TX0) (N := 12) hx hb hts hin hown hK hP 0 rfl rfl 3 (by decide) (hts (.fieldLink RX0 19 "NestCells" "traceLevel" "[I") (by decide +kernel)) (fun _ h9 => h9) rfl dX0_foldLevel_64 ?_
            refine lv_iload hx hb dX0_foldLevel_67 (lv_at hl 4 rfl) ?_
            refine kv_iald hx hb hK hP 4 0 rfl rfl (by omega) (by omega) dX0_foldLevel_69 ?_
            refine lv_goto (tgt := 82) hx hb dX0_foldLevel_70 (by decide) ?_
            refine kv_iast hx hb hK hP hD hS 4 0 rfl rfl (by omega) (by omega) dX0_foldLevel_82 (fun H locs hP hD hS => ?_)
            have hP : va_P (dC, dI) vwCl (wX0 cA h0 q0 q1 q2 q3 q4 q5 w ce nm (upd ((F t).2.1) ((F t).1) (((F t).2.1) t)) ((F t).2.2.1) ((F t).2.2.2) T n z wtc wia off) H := hP
            have hD : va_D A (wX0 cA h0 q0 q1 q2 q3 q4 q5 w ce nm (upd ((F t).2.1) ((F t).1) (((F t).2.1) t)) ((F t).2.2.1) ((F t).2.2.2) T n z wtc wia off) := hD
            refine lv_aload_n hx hb dX0_foldLevel_83 rfl (lv_at hl 0 rfl) ?_
            refine va_get (D := (dC, dI)) (ci := 0) (v := .ref q4) (C := RX0) (T := TX0) (N := 12) hx hb hts hin hown hK hP 0 rfl rfl 4 (by decide) (hts (.fieldLink RX0 22 "NestCells" "traceCell" "[I") (by decide +kernel)) (fun _ h9 => h9) rfl dX0_foldLevel_84 ?_
            refine lv_iload_n hx hb dX0_foldLevel_87 rfl (lv_at hl 3 rfl) ?_
            refine lv_aload_n hx hb dX0_foldLevel_88 rfl (lv_at hl 0 rfl) ?_
            refine va_get (D := (dC, dI)) (ci := 0) (v := .ref q4) (C := RX0) (T := TX0) (N := 12) hx hb hts hin hown hK hP 0 rfl rfl 4 (by decide) (hts (.fieldLink RX0 22 "NestCells" "traceCell" "[I") (by decide +kernel)) (fun _ h9 => h9) rfl dX0_foldLevel_89 ?_
            refine lv_iload hx hb dX0_foldLevel_92 (lv_at hl 4 rfl) ?_
            refine kv_iald hx hb hK hP 5 0 rfl rfl (by omega) (by omega) dX0_foldLevel_94 ?_
            refine kv_iast hx hb hK hP hD hS 5 0 rfl rfl (by omega) (by omega) dX0_foldLevel_95 (fun H locs hP hD hS => ?_)
            have hP : va_P (dC, dI) vwCl (wX0 cA h0 q0 q1 q2 q3 q4 q5 w ce nm (upd ((F t).2.1) ((F t).1) (((F t).2.1) t)) (upd ((F t).2.2.1) ((F t).1) (((F t).2.2.1) t)) ((F t).2.2.2) T n z wtc wia off) H := hP
            have hD : va_D A (wX0 cA h0 q0 q1 q2 q3 q4 q5 w ce nm (upd ((F t).2.1) ((F t).1) (((F t).2.1) t)) (upd ((F t).2.2.1) ((F t).1) (((F t).2.2.1) t)) ((F t).2.2.2) T n z wtc wia off) := hD
            refine lv_aload_n hx hb dX0_foldLevel_96 rfl (lv_at hl 0 rfl) ?_
            refine va_get (D := (dC, dI)) (ci := 0) (v := .ref q5) (C := RX0) (T := TX0) (N := 12) hx hb hts hin hown hK hP 0 rfl rfl 5 (by decide) (hts (.fieldLink RX0 25 "NestCells" "traceWas" "[I") (by decide +kernel)) (fun _ h9 => h9) rfl dX0_foldLevel_97 ?_
            refine lv_iload_n hx hb dX0_foldLevel_100 rfl (lv_at hl 3 rfl) ?_
            refine lv_aload_n hx hb dX0_foldLevel_101 rfl (lv_at hl 0 rfl) ?_
            refine va_get (D := (dC, dI)) (ci := 0) (v := .ref q5) (C := RX0) (T := TX0) (N := 12) hx hb hts hin hown hK hP 0 rfl rfl 5 (by decide) (hts (.fieldLink RX0 25 "NestCells" "traceWas" "[I") (by decide +kernel)) (fun _ h9 => h9) rfl dX0_foldLevel_102 ?_
            refine lv_iload hx hb dX0_foldLevel_105 (lv_at hl 4 rfl) ?_
            refine kv_iald hx hb hK hP 6 0 rfl rfl (by omega) (by omega) dX0_foldLevel_107 ?_
            refine kv_iast hx hb hK hP hD hS 6 0 rfl rfl (by omega) (by omega) dX0_foldLevel_108 (fun H locs hP hD hS => ?_)
            have hP : va_P (dC, dI) vwCl (wX0 cA h0 q0 q1 q2 q3 q4 q5 w ce nm (upd ((F t).2.1) ((F t).1) (((F t).2.1) t)) (upd ((F t).2.2.1) ((F t).1) (((F t).2.2.1) t)) (upd ((F t).2.2.2) ((F t).1) (((F t).2.2.2) t)) T n z wtc wia off) H := hP
            have hD : va_D A (wX0 cA h0 q0 q1 q2 q3 q4 q5 w ce nm (upd ((F t).2.1) ((F t).1) (((F t).2.1) t)) (upd ((F t).2.2.1) ((F t).1) (((F t).2.2.1) t)) (upd ((F t).2.2.2) ((F t).1) (((F t).2.2.2) t)) T n z wtc wia off) := hD
            refine lv_iinc (v := (nI (((F t).1) + 1))) (lv' := [(3, .int (nI (((F t).1) + 1))), (0, .ref h0), (1, .int (nI lev)), (2, .int (kx_tc tl tc (nI (lev - 1)) z)), (4, .int (nI t))]) hx hb dX0_foldLevel_109 hl (k := 3) rfl (kv_inc _ 1 (by decide)) (by decide) rfl (fun ls hl => ?_)
            refine lv_iinc (v := (nI (t + 1))) (lv' := [(4, .int (nI (t + 1))), (3, .int (nI (((F t).1) + 1))), (0, .ref h0), (1, .int (nI lev)), (2, .int (kx_tc tl tc (nI (lev - 1)) z))]) hx hb dX0_foldLevel_112 hl (k := 4) rfl (kv_inc _ 1 (by decide)) (by decide) rfl (fun ls hl => ?_)
            refine lv_goto (tgt := 13) hx hb dX0_foldLevel_115 (by decide) ?_
            have e1 : F (t + 1) = ((F t).1 + 1, upd ((F t).2.1) ((F t).1) (((F t).2.1) t), upd ((F t).2.2.1) ((F t).1) (((F t).2.2.1) t), upd ((F t).2.2.2) ((F t).1) (((F t).2.2.2) t)) := by rw [hFs, if_neg (fun q => q.2 h44_1), if_neg h60_2]
            have hP : va_P (dC, dI) vwCl (wX0 cA h0 q0 q1 q2 q3 q4 q5 w ce nm ((F (t + 1)).2.1) ((F (t + 1)).2.2.1) ((F (t + 1)).2.2.2) T n z wtc wia off) H := by rw [e1]; exact hP
            have hD : va_D A (wX0 cA h0 q0 q1 q2 q3 q4 q5 w ce nm ((F (t + 1)).2.1) ((F (t + 1)).2.2.1) ((F (t + 1)).2.2.2) T n z wtc wia off) := by rw [e1]; exact hD
            have hl : lv_has ls 5 [(4, .int (nI (t + 1))), (3, .int (nI ((F (t + 1)).1))), (0, .ref h0), (1, .int (nI lev)), (2, .int (kx_tc tl tc (nI (lev - 1)) z))] := by rw [e1]; exact hl
            exact ih (t + 1) (by omega) _ _ _ hP hD hS (lv_sub hl [2, 3, 4, 1, 0] rfl)
  exact lp z 0 (by omega) _ _ _ hP hD hS (lv_sub hl [3, 4, 2, 1, 0] rfl)
set_option maxHeartbeats 4000000 in
set_option maxRecDepth 100000 in
/-- NestCells.putWord  -/
theorem c_X0_putWord (l : Launch) (dC : Nat → ClassId) (dI : Nat → Nat → Nat) (cA : ClassId) (h0 q0 q1 q2 q3 q4 q5 : Nat) (w ce nm tl tc tw : Nat → Int32) (T n z : Nat) (wtc wia off : Int32) (i : Nat) (v : Int32) (hi : i < 98) : kMv l yX0_putWord wsX0_putWord ({ frames := 0, cells := 0, slots := 0, locals := 0 }) dC dI [(cA, .int)] (wX0 cA h0 q0 q1 q2 q3 q4 q5 w ce nm tl tc tw T n z wtc wia off) [.ref h0, .int (nI i), .int v] (wX0 cA h0 q0 q1 q2 q3 q4 q5 ((kx_pw (w, wtc, wia, off) i v).1) ce nm tl tc tw T n z ((kx_pw (w, wtc, wia, off) i v).2.1) ((kx_pw (w, wtc, wia, off) i v).2.2.1) ((kx_pw (w, wtc, wia, off) i v).2.2.2)) := by
  refine kMv_of (cc := cX0_putWord) (maxL := 3) (ret := none) (by decide) rfl (Nat.le_of_ble_eq_true rfl) ?_
  intro p e s m below meth c A ls hx hb hml hr hts hown hlocks hA hP hK hD hS hl
  have hin : ∀ w ∈ u_ws RX0 TX0 12, w ∈ wsX0_putWord := by decide +kernel
  have hl : lv_has ls 3 [(0, .ref h0), (1, .int (nI i)), (2, .int v)] := hl
  refine lv_aload_n hx hb dX0_putWord_0 rfl (lv_at hl 0 rfl) ?_
  refine va_get (D := (dC, dI)) (ci := 0) (v := .int off) (C := RX0) (T := TX0) (N := 12) hx hb hts hin hown hK hP 0 rfl rfl 11 (by decide) (hts (.fieldLink RX0 44 "NestCells" "off" "Z") (by decide +kernel)) (fun _ h9 => h9) rfl dX0_putWord_1 ?_
  refine lv_if_eq (tgt := 8) hx hb dX0_putWord_4 (by decide) (fun h4_0 => ?_) (fun h4_0 => ?_)
  · skip
    refine lv_aload_n hx hb dX0_putWord_8 rfl (lv_at hl 0 rfl) ?_
    refine va_get (D := (dC, dI)) (ci := 0) (v := .int wtc) (C := RX0) (T := TX0) (N := 12) hx hb hts hin hown hK hP 0 rfl rfl 9 (by decide) (hts (.fieldLink RX0 37 "NestCells" "writesTillCrash" "I") (by decide +kernel)) (fun _ h9 => h9) rfl dX0_putWord_9 ?_
    refine lv_iconst (v := (nI 1)) hx hb dX0_putWord_12 (by decide) ?_
    refine lv_icmp_ne (tgt := 27) hx hb dX0_putWord_13 (by decide) (fun h13_1 => ?_) (fun h13_1 => ?_)
    · skip
      refine lv_aload_n hx hb dX0_putWord_27 rfl (lv_at hl 0 rfl) ?_
      refine va_get (D := (dC, dI)) (ci := 0) (v := .int wtc) (C := RX0) (T := TX0) (N := 12) hx hb hts hin hown hK hP 0 rfl rfl 9 (by decide) (hts (.fieldLink RX0 37 "NestCells" "writesTillCrash" "I") (by decide +kernel)) (fun _ h9 => h9) rfl dX0_putWord_28 ?_
      refine lv_iconst (v := (nI 1)) hx hb dX0_putWord_31 (by decide) ?_
      refine lv_icmp_le (tgt := 45) hx hb dX0_putWord_32 (by decide) (fun h32_2 => ?_) (fun h32_2 => ?_)
      · skip
        refine lv_aload_n hx hb dX0_putWord_45 rfl (lv_at hl 0 rfl) ?_
        refine va_get (D := (dC, dI)) (ci := 0) (v := .ref q0) (C := RX0) (T := TX0) (N := 12) hx hb hts hin hown hK hP 0 rfl rfl 0 (by decide) (hts (.fieldLink RX0 9 "NestCells" "words" "[I") (by decide +kernel)) (fun _ h9 => h9) rfl dX0_putWord_46 ?_
        refine lv_iload_n hx hb dX0_putWord_49 rfl (lv_at hl 1 rfl) ?_
        refine lv_iload_n hx hb dX0_putWord_50 rfl (lv_at hl 2 rfl) ?_
        refine kv_iast hx hb hK hP hD hS 1 0 rfl rfl (by omega) (by omega) dX0_putWord_51 (fun H locs hP hD hS => ?_)
        have hP : va_P (dC, dI) vwCl (wX0 cA h0 q0 q1 q2 q3 q4 q5 (upd w i v) ce nm tl tc tw T n z wtc wia off) H := hP
        have hD : va_D A (wX0 cA h0 q0 q1 q2 q3 q4 q5 (upd w i v) ce nm tl tc tw T n z wtc wia off) := hD
        refine lv_aload_n hx hb dX0_putWord_52 rfl (lv_at hl 0 rfl) ?_
        refine lv_dup hx hb dX0_putWord_53 rfl ?_
        refine va_get (D := (dC, dI)) (ci := 0) (v := .int wia) (C := RX0) (T := TX0) (N := 12) hx hb hts hin hown hK hP 0 rfl rfl 10 (by decide) (hts (.fieldLink RX0 41 "NestCells" "writesInAll" "I") (by decide +kernel)) (fun _ h9 => h9) rfl dX0_putWord_54 ?_
        refine lv_iconst (v := (nI 1)) hx hb dX0_putWord_57 (by decide) ?_
        refine lv_iadd hx hb dX0_putWord_58 ?_
        refine va_put (D := (dC, dI)) (ci := 0) (v := .int (wia + (nI 1))) (ty := .int) (C := RX0) (T := TX0) (N := 12) hx hb hts hin tyX0 tyX0_ok nmX0 hown hK hP hD hS 0 rfl rfl 10 (by decide) (hts (.fieldLink RX0 41 "NestCells" "writesInAll" "I") (by decide +kernel)) (fun _ h9 => h9) rfl (by decide +kernel) rfl rfl (Nat.le_of_ble_eq_true rfl) dX0_putWord_59 (fun H locs hP hD hS => ?_)
        have hP : va_P (dC, dI) vwCl (wX0 cA h0 q0 q1 q2 q3 q4 q5 (upd w i v) ce nm tl tc tw T n z wtc (wia + (nI 1)) off) H := hP
        have hD : va_D A (wX0 cA h0 q0 q1 q2 q3 q4 q5 (upd w i v) ce nm tl tc tw T n z wtc (wia + (nI 1)) off) := hD
        exact kMv_ret hx hb hr hlocks hP hK hD hS dX0_putWord_62 (by simp [kx_pw, h4_0, h13_1, h32_2])
      · skip
        refine lv_aload_n hx hb dX0_putWord_35 rfl (lv_at hl 0 rfl) ?_
        refine lv_dup hx hb dX0_putWord_36 rfl ?_
        refine va_get (D := (dC, dI)) (ci := 0) (v := .int wtc) (C := RX0) (T := TX0) (N := 12) hx hb hts hin hown hK hP 0 rfl rfl 9 (by decide) (hts (.fieldLink RX0 37 "NestCells" "writesTillCrash" "I") (by decide +kernel)) (fun _ h9 => h9) rfl dX0_putWord_37 ?_
        refine lv_iconst (v := (nI 1)) hx hb dX0_putWord_40 (by decide) ?_
        refine lv_isub hx hb dX0_putWord_41 ?_
        refine va_put (D := (dC, dI)) (ci := 0) (v := .int (wtc - (nI 1))) (ty := .int) (C := RX0) (T := TX0) (N := 12) hx hb hts hin tyX0 tyX0_ok nmX0 hown hK hP hD hS 0 rfl rfl 9 (by decide) (hts (.fieldLink RX0 37 "NestCells" "writesTillCrash" "I") (by decide +kernel)) (fun _ h9 => h9) rfl (by decide +kernel) rfl rfl (Nat.le_of_ble_eq_true rfl) dX0_putWord_42 (fun H locs hP hD hS => ?_)
        have hP : va_P (dC, dI) vwCl (wX0 cA h0 q0 q1 q2 q3 q4 q5 w ce nm tl tc tw T n z (wtc - (nI 1)) wia off) H := hP
        have hD : va_D A (wX0 cA h0 q0 q1 q2 q3 q4 q5 w ce nm tl tc tw T n z (wtc - (nI 1)) wia off) := hD
        refine lv_aload_n hx hb dX0_putWord_45 rfl (lv_at hl 0 rfl) ?_
        refine va_get (D := (dC, dI)) (ci := 0) (v := .ref q0) (C := RX0) (T := TX0) (N := 12) hx hb hts hin hown hK hP 0 rfl rfl 0 (by decide) (hts (.fieldLink RX0 9 "NestCells" "words" "[I") (by decide +kernel)) (fun _ h9 => h9) rfl dX0_putWord_46 ?_
        refine lv_iload_n hx hb dX0_putWord_49 rfl (lv_at hl 1 rfl) ?_
        refine lv_iload_n hx hb dX0_putWord_50 rfl (lv_at hl 2 rfl) ?_
        refine kv_iast hx hb hK hP hD hS 1 0 rfl rfl (by omega) (by omega) dX0_putWord_51 (fun H locs hP hD hS => ?_)
        have hP : va_P (dC, dI) vwCl (wX0 cA h0 q0 q1 q2 q3 q4 q5 (upd w i v) ce nm tl tc tw T n z (wtc - (nI 1)) wia off) H := hP
        have hD : va_D A (wX0 cA h0 q0 q1 q2 q3 q4 q5 (upd w i v) ce nm tl tc tw T n z (wtc - (nI 1)) wia off) := hD
        refine lv_aload_n hx hb dX0_putWord_52 rfl (lv_at hl 0 rfl) ?_
        refine lv_dup hx hb dX0_putWord_53 rfl ?_
        refine va_get (D := (dC, dI)) (ci := 0) (v := .int wia) (C := RX0) (T := TX0) (N := 12) hx hb hts hin hown hK hP 0 rfl rfl 10 (by decide) (hts (.fieldLink RX0 41 "NestCells" "writesInAll" "I") (by decide +kernel)) (fun _ h9 => h9) rfl dX0_putWord_54 ?_
        refine lv_iconst (v := (nI 1)) hx hb dX0_putWord_57 (by decide) ?_
        refine lv_iadd hx hb dX0_putWord_58 ?_
        refine va_put (D := (dC, dI)) (ci := 0) (v := .int (wia + (nI 1))) (ty := .int) (C := RX0) (T := TX0) (N := 12) hx hb hts hin tyX0 tyX0_ok nmX0 hown hK hP hD hS 0 rfl rfl 10 (by decide) (hts (.fieldLink RX0 41 "NestCells" "writesInAll" "I") (by decide +kernel)) (fun _ h9 => h9) rfl (by decide +kernel) rfl rfl (Nat.le_of_ble_eq_true rfl) dX0_putWord_59 (fun H locs hP hD hS => ?_)
        have hP : va_P (dC, dI) vwCl (wX0 cA h0 q0 q1 q2 q3 q4 q5 (upd w i v) ce nm tl tc tw T n z (wtc - (nI 1)) (wia + (nI 1)) off) H := hP
        have hD : va_D A (wX0 cA h0 q0 q1 q2 q3 q4 q5 (upd w i v) ce nm tl tc tw T n z (wtc - (nI 1)) (wia + (nI 1)) off) := hD
        exact kMv_ret hx hb hr hlocks hP hK hD hS dX0_putWord_62 (by simp [kx_pw, h4_0, h13_1, h32_2])
    · skip
      refine lv_aload_n hx hb dX0_putWord_16 rfl (lv_at hl 0 rfl) ?_
      refine lv_iconst (v := (nI 0)) hx hb dX0_putWord_17 (by decide) ?_
      refine va_put (D := (dC, dI)) (ci := 0) (v := .int (nI 0)) (ty := .int) (C := RX0) (T := TX0) (N := 12) hx hb hts hin tyX0 tyX0_ok nmX0 hown hK hP hD hS 0 rfl rfl 9 (by decide) (hts (.fieldLink RX0 37 "NestCells" "writesTillCrash" "I") (by decide +kernel)) (fun _ h9 => h9) rfl (by decide +kernel) rfl rfl (Nat.le_of_ble_eq_true rfl) dX0_putWord_18 (fun H locs hP hD hS => ?_)
      have hP : va_P (dC, dI) vwCl (wX0 cA h0 q0 q1 q2 q3 q4 q5 w ce nm tl tc tw T n z (nI 0) wia off) H := hP
      have hD : va_D A (wX0 cA h0 q0 q1 q2 q3 q4 q5 w ce nm tl tc tw T n z (nI 0) wia off) := hD
      refine lv_aload_n hx hb dX0_putWord_21 rfl (lv_at hl 0 rfl) ?_
      refine lv_iconst (v := (nI 1)) hx hb dX0_putWord_22 (by decide) ?_
      refine va_put (D := (dC, dI)) (ci := 0) (v := .int (nI 1)) (ty := .boolean) (C := RX0) (T := TX0) (N := 12) hx hb hts hin tyX0 tyX0_ok nmX0 hown hK hP hD hS 0 rfl rfl 11 (by decide) (hts (.fieldLink RX0 44 "NestCells" "off" "Z") (by decide +kernel)) (fun _ h9 => h9) rfl (by decide +kernel) rfl rfl (Nat.le_of_ble_eq_true rfl) dX0_putWord_23 (fun H locs hP hD hS => ?_)
      have hP : va_P (dC, dI) vwCl (wX0 cA h0 q0 q1 q2 q3 q4 q5 w ce nm tl tc tw T n z (nI 0) wia (nI 1)) H := hP
      have hD : va_D A (wX0 cA h0 q0 q1 q2 q3 q4 q5 w ce nm tl tc tw T n z (nI 0) wia (nI 1)) := hD
      exact kMv_ret hx hb hr hlocks hP hK hD hS dX0_putWord_26 (by simp [kx_pw, h4_0, h13_1])
  · skip
    exact kMv_ret hx hb hr hlocks hP hK hD hS dX0_putWord_7 (by simp [kx_pw, h4_0])
end
section
set_option maxHeartbeats 4000000 in
set_option maxRecDepth 100000 in
/-- NestCells.writeEntries  -/
theorem c_X0_writeEntries (l : Launch) (dC : Nat → ClassId) (dI : Nat → Nat → Nat) (cA : ClassId) (h0 q0 q1 q2 q3 q4 q5 : Nat) (w ce nm tl tc tw : Nat → Int32) (T n z : Nat) (wtc wia off : Int32) (tr : Int32)  : kMv l yX0_writeEntries wsX0_writeEntries ({ frames := 1, cells := 0, slots := 0, locals := 22 }) dC dI [(cA, .int)] (wX0 cA h0 q0 q1 q2 q3 q4 q5 w ce nm tl tc tw T n z wtc wia off) [.ref h0, .int tr] (wX0 cA h0 q0 q1 q2 q3 q4 q5 (((kx_we tr ce (w, wtc, wia, off) 32).1).1) ce nm tl tc tw T n z (((kx_we tr ce (w, wtc, wia, off) 32).1).2.1) (((kx_we tr ce (w, wtc, wia, off) 32).1).2.2.1) (((kx_we tr ce (w, wtc, wia, off) 32).1).2.2.2)) := by
  refine kMv_of (cc := cX0_writeEntries) (maxL := 4) (ret := none) (by decide) rfl (Nat.le_of_ble_eq_true rfl) ?_
  intro p e s m below meth c A ls hx hb hml hr hts hown hlocks hA hP hK hD hS hl
  have hin : ∀ w ∈ u_ws RX0 TX0 12, w ∈ wsX0_writeEntries := by decide +kernel
  have hl : lv_has ls 4 [(0, .ref h0), (1, .int tr)] := hl
  refine lv_bipush (v := (nI 34)) hx hb dX0_writeEntries_0 (by decide) ?_
  refine lv_istore_n (lv' := [(2, .int (nI 34)), (0, .ref h0), (1, .int tr)]) hx hb dX0_writeEntries_2 rfl hl (by decide) rfl (fun ls hl => ?_)
  refine lv_iconst (v := (nI 0)) hx hb dX0_writeEntries_3 (by decide) ?_
  refine lv_istore_n (lv' := [(3, .int (nI 0)), (2, .int (nI 34)), (0, .ref h0), (1, .int tr)]) hx hb dX0_writeEntries_4 rfl hl (by decide) rfl (fun ls hl => ?_)
  obtain ⟨E, hE⟩ : ∃ E, E = kx_we tr ce (w, wtc, wia, off) := ⟨_, rfl⟩
  have hEl : ∀ k, 34 ≤ (E k).2 ∧ (E k).2 ≤ 34 + 2 * k := fun k => by rw [hE]; exact kx_we_le _ _ _ k
  have hEs : ∀ k, E (k + 1) = if kx_holds tr (nI k) = 0 then E k else (kx_pw (kx_pw (E k).1 (E k).2 (nI k)) ((E k).2 + 1) (ce k), (E k).2 + 2) := fun k => by rw [hE]; rfl
  have hP : va_P (dC, dI) vwCl (wX0 cA h0 q0 q1 q2 q3 q4 q5 (((E 0).1).1) ce nm tl tc tw T n z (((E 0).1).2.1) (((E 0).1).2.2.1) (((E 0).1).2.2.2)) s.heap := by rw [hE]; exact hP
  have hD : va_D A (wX0 cA h0 q0 q1 q2 q3 q4 q5 (((E 0).1).1) ce nm tl tc tw T n z (((E 0).1).2.1) (((E 0).1).2.2.1) (((E 0).1).2.2.2)) := by rw [hE]; exact hD
  have hl : lv_has ls 4 [(3, .int (nI 0)), (2, .int (nI ((E 0).2))), (0, .ref h0), (1, .int tr)] := by rw [hE]; exact hl
  have lp : ∀ (k : Nat) (t : Nat), ∀ (_ : t + k = 32), ∀ (H : Heap) (locs : List Loc) (ls : Array Slot), va_P (dC, dI) vwCl (wX0 cA h0 q0 q1 q2 q3 q4 q5 (((E t).1).1) ce nm tl tc tw T n z (((E t).1).2.1) (((E t).1).2.2.1) (((E t).1).2.2.2)) H → va_D A (wX0 cA h0 q0 q1 q2 q3 q4 q5 (((E t).1).1) ce nm tl tc tw T n z (((E t).1).2.1) (((E t).1).2.2.1) (((E t).1).2.2.2)) → va_S A s.heap H locs → lv_has ls 4 [(0, .ref h0), (1, .int tr), (2, .int (nI ((E t).2))), (3, .int (nI t))] → W p l e (headSpec wsX0_writeEntries ({ frames := 1, cells := 0, slots := 0, locals := 22 })).room s m ([.ref h0, .int tr] : List Value).toArray below meth c H locs 0 0 (MQ below (va_Qv (fun (_ : Unit) => True) (kB dC dI [(cA, .int)] (wX0 cA h0 q0 q1 q2 q3 q4 q5 (((kx_we tr ce (w, wtc, wia, off) 32).1).1) ce nm tl tc tw T n z (((kx_we tr ce (w, wtc, wia, off) 32).1).2.1) (((kx_we tr ce (w, wtc, wia, off) 32).1).2.2.1) (((kx_we tr ce (w, wtc, wia, off) 32).1).2.2.2)) A) A) ([.ref h0, .int tr] : List Value).toArray s 0 0 A) (F0 m 5 ls []) := by
    intro k
    induction k with
    | zero =>
      intro t ht H locs ls hP hD hS hl
      refine lv_iload_n hx hb dX0_writeEntries_5 rfl (lv_at hl 3 rfl) ?_
      refine lv_bipush (v := (nI 32)) hx hb dX0_writeEntries_6 (by decide) ?_
      refine kv_ge (tgt := 47) hx hb (by omega) (by omega) dX0_writeEntries_8 (by decide) (fun h8_0 => ?_) (fun h8_0 => absurd h8_0 (by omega))
      exact kMv_ret hx hb hr hlocks hP hK hD hS dX0_writeEntries_47 (by rw [hE, show t = 32 by omega])
    | succ k ih =>
      intro t ht H locs ls hP hD hS hl
      have hEt := hEl t
      refine lv_iload_n hx hb dX0_writeEntries_5 rfl (lv_at hl 3 rfl) ?_
      refine lv_bipush (v := (nI 32)) hx hb dX0_writeEntries_6 (by decide) ?_
      refine kv_ge (tgt := 47) hx hb (by omega) (by omega) dX0_writeEntries_8 (by decide) (fun h8_0 => absurd h8_0 (by omega)) (fun h8_0 => ?_)
      refine lv_iload_n hx hb dX0_writeEntries_11 rfl (lv_at hl 1 rfl) ?_
      refine lv_iload_n hx hb dX0_writeEntries_12 rfl (lv_at hl 3 rfl) ?_
      refine kv_Si (Xr := wX0 cA h0 q0 q1 q2 q3 q4 q5 (((E t).1).1) ce nm tl tc tw T n z (((E t).1).2.1) (((E t).1).2.2.1) (((E t).1).2.2.2)) (n := 2) (c_X0_holds l dC dI   tr (nI t) ) hx hb hml hown hts gX0_writeEntries_X0_holds rfl ⟨rfl, rfl⟩ (by decide +kernel) rfl ⟨Nat.le_of_ble_eq_true rfl, Nat.le_of_ble_eq_true rfl⟩ hK hP hD hS hA [] [] [0, 1, 2, 3, 4, 5, 6] rfl rfl rfl (by decide) (by decide) rfl (by decide) hl.1 rfl (Nat.le_of_ble_eq_true rfl) dX0_writeEntries_13 ⟨Nat.zero_le _, Nat.zero_le _⟩ (fun H locs hP hD hS => ?_)
      have hP : va_P (dC, dI) vwCl (wX0 cA h0 q0 q1 q2 q3 q4 q5 (((E t).1).1) ce nm tl tc tw T n z (((E t).1).2.1) (((E t).1).2.2.1) (((E t).1).2.2.2)) H := hP
      have hD : va_D A (wX0 cA h0 q0 q1 q2 q3 q4 q5 (((E t).1).1) ce nm tl tc tw T n z (((E t).1).2.1) (((E t).1).2.2.1) (((E t).1).2.2.2)) := hD
      refine lv_if_eq (tgt := 41) hx hb dX0_writeEntries_16 (by decide) (fun h16_0 => ?_) (fun h16_0 => ?_)
      · skip
        refine lv_iinc (v := (nI (t + 1))) (lv' := [(3, .int (nI (t + 1))), (0, .ref h0), (1, .int tr), (2, .int (nI ((E t).2)))]) hx hb dX0_writeEntries_41 hl (k := 3) rfl (kv_inc _ 1 (by decide)) (by decide) rfl (fun ls hl => ?_)
        refine lv_goto (tgt := 5) hx hb dX0_writeEntries_44 (by decide) ?_
        have e1 : E (t + 1) = E t := by rw [hEs, if_pos h16_0]
        have hP : va_P (dC, dI) vwCl (wX0 cA h0 q0 q1 q2 q3 q4 q5 (((E (t + 1)).1).1) ce nm tl tc tw T n z (((E (t + 1)).1).2.1) (((E (t + 1)).1).2.2.1) (((E (t + 1)).1).2.2.2)) H := by rw [e1]; exact hP
        have hD : va_D A (wX0 cA h0 q0 q1 q2 q3 q4 q5 (((E (t + 1)).1).1) ce nm tl tc tw T n z (((E (t + 1)).1).2.1) (((E (t + 1)).1).2.2.1) (((E (t + 1)).1).2.2.2)) := by rw [e1]; exact hD
        have hl : lv_has ls 4 [(3, .int (nI (t + 1))), (0, .ref h0), (1, .int tr), (2, .int (nI ((E (t + 1)).2)))] := by rw [e1]; exact hl
        exact ih (t + 1) (by omega) _ _ _ hP hD hS (lv_sub hl [1, 2, 3, 0] rfl)
      · skip
        refine lv_aload_n hx hb dX0_writeEntries_19 rfl (lv_at hl 0 rfl) ?_
        refine lv_iload_n hx hb dX0_writeEntries_20 rfl (lv_at hl 2 rfl) ?_
        refine lv_iload_n hx hb dX0_writeEntries_21 rfl (lv_at hl 3 rfl) ?_
        refine kv_Vv (Xr := []) (n := 2) (c_X0_putWord l dC dI cA h0 q0 q1 q2 q3 q4 q5 (((E t).1).1) ce nm tl tc tw T n z (((E t).1).2.1) (((E t).1).2.2.1) (((E t).1).2.2.2) ((E t).2) (nI t) (by omega)) hx hb hml hown hts gX0_writeEntries_X0_putWord rfl ⟨rfl, rfl⟩ (by decide +kernel) rfl ⟨Nat.le_of_ble_eq_true rfl, Nat.le_of_ble_eq_true rfl⟩ hK hP hD hS hA [0] [0, 1, 2, 3, 4, 5, 6] [] rfl rfl rfl (by decide) (by decide) (q0 := 0) rfl rfl rfl (by decide) hl.1 rfl (Nat.le_of_ble_eq_true rfl) dX0_writeEntries_22 ⟨Nat.zero_le _, Nat.zero_le _⟩ (fun H locs hP hD hS => ?_)
        have hP : va_P (dC, dI) vwCl (wX0 cA h0 q0 q1 q2 q3 q4 q5 ((kx_pw ((((E t).1).1), (((E t).1).2.1), (((E t).1).2.2.1), (((E t).1).2.2.2)) ((E t).2) (nI t)).1) ce nm tl tc tw T n z ((kx_pw ((((E t).1).1), (((E t).1).2.1), (((E t).1).2.2.1), (((E t).1).2.2.2)) ((E t).2) (nI t)).2.1) ((kx_pw ((((E t).1).1), (((E t).1).2.1), (((E t).1).2.2.1), (((E t).1).2.2.2)) ((E t).2) (nI t)).2.2.1) ((kx_pw ((((E t).1).1), (((E t).1).2.1), (((E t).1).2.2.1), (((E t).1).2.2.2)) ((E t).2) (nI t)).2.2.2)) H := hP
        have hD : va_D A (wX0 cA h0 q0 q1 q2 q3 q4 q5 ((kx_pw ((((E t).1).1), (((E t).1).2.1), (((E t).1).2.2.1), (((E t).1).2.2.2)) ((E t).2) (nI t)).1) ce nm tl tc tw T n z ((kx_pw ((((E t).1).1), (((E t).1).2.1), (((E t).1).2.2.1), (((E t).1).2.2.2)) ((E t).2) (nI t)).2.1) ((kx_pw ((((E t).1).1), (((E t).1).2.1), (((E t).1).2.2.1), (((E t).1).2.2.2)) ((E t).2) (nI t)).2.2.1) ((kx_pw ((((E t).1).1), (((E t).1).2.1), (((E t).1).2.2.1), (((E t).1).2.2.2)) ((E t).2) (nI t)).2.2.2)) := hD
        have hP : va_P (dC, dI) vwCl (wX0 cA h0 q0 q1 q2 q3 q4 q5 ((kx_pw (E t).1 (E t).2 (nI t)).1) ce nm tl tc tw T n z ((kx_pw (E t).1 (E t).2 (nI t)).2.1) ((kx_pw (E t).1 (E t).2 (nI t)).2.2.1) ((kx_pw (E t).1 (E t).2 (nI t)).2.2.2)) H := by exact hP
        have hD : va_D A (wX0 cA h0 q0 q1 q2 q3 q4 q5 ((kx_pw (E t).1 (E t).2 (nI t)).1) ce nm tl tc tw T n z ((kx_pw (E t).1 (E t).2 (nI t)).2.1) ((kx_pw (E t).1 (E t).2 (nI t)).2.2.1) ((kx_pw (E t).1 (E t).2 (nI t)).2.2.2)) := by exact hD
        refine lv_aload_n hx hb dX0_writeEntries_25 rfl (lv_at hl 0 rfl) ?_
        refine lv_iload_n hx hb dX0_writeEntries_26 rfl (lv_at hl 2 rfl) ?_
        refine lv_iconst (v := (nI 1)) hx hb dX0_writeEntries_27 (by decide) ?_
        refine kv_addE (d := ((E t).2) + 1) hx hb (by omega) dX0_writeEntries_28 ?_
        refine lv_aload_n hx hb dX0_writeEntries_29 rfl (lv_at hl 0 rfl) ?_
        refine va_get (D := (dC, dI)) (ci := 0) (v := .ref q1) (C := RX0) (T := TX0) (N := 12) hx hb hts hin hown hK hP 0 rfl rfl 1 (by decide) (hts (.fieldLink RX0 13 "NestCells" "cells" "[I") (by decide +kernel)) (fun _ h9 => h9) rfl dX0_writeEntries_30 ?_
        refine lv_iload_n hx hb dX0_writeEntries_33 rfl (lv_at hl 3 rfl) ?_
        refine kv_iald hx hb hK hP 2 0 rfl rfl (by omega) (by omega) dX0_writeEntries_34 ?_
        refine kv_Vv (Xr := []) (n := 2) (c_X0_putWord l dC dI cA h0 q0 q1 q2 q3 q4 q5 ((kx_pw (E t).1 (E t).2 (nI t)).1) ce nm tl tc tw T n z ((kx_pw (E t).1 (E t).2 (nI t)).2.1) ((kx_pw (E t).1 (E t).2 (nI t)).2.2.1) ((kx_pw (E t).1 (E t).2 (nI t)).2.2.2) (((E t).2) + 1) (ce t) (by omega)) hx hb hml hown hts gX0_writeEntries_X0_putWord rfl ⟨rfl, rfl⟩ (by decide +kernel) rfl ⟨Nat.le_of_ble_eq_true rfl, Nat.le_of_ble_eq_true rfl⟩ hK hP hD hS hA [0] [0, 1, 2, 3, 4, 5, 6] [] rfl rfl rfl (by decide) (by decide) (q0 := 0) rfl rfl rfl (by decide) hl.1 rfl (Nat.le_of_ble_eq_true rfl) dX0_writeEntries_35 ⟨Nat.zero_le _, Nat.zero_le _⟩ (fun H locs hP hD hS => ?_)
        have hP : va_P (dC, dI) vwCl (wX0 cA h0 q0 q1 q2 q3 q4 q5 ((kx_pw (((kx_pw (E t).1 (E t).2 (nI t)).1), ((kx_pw (E t).1 (E t).2 (nI t)).2.1), ((kx_pw (E t).1 (E t).2 (nI t)).2.2.1), ((kx_pw (E t).1 (E t).2 (nI t)).2.2.2)) (((E t).2) + 1) (ce t)).1) ce nm tl tc tw T n z ((kx_pw (((kx_pw (E t).1 (E t).2 (nI t)).1), ((kx_pw (E t).1 (E t).2 (nI t)).2.1), ((kx_pw (E t).1 (E t).2 (nI t)).2.2.1), ((kx_pw (E t).1 (E t).2 (nI t)).2.2.2)) (((E t).2) + 1) (ce t)).2.1) ((kx_pw (((kx_pw (E t).1 (E t).2 (nI t)).1), ((kx_pw (E t).1 (E t).2 (nI t)).2.1), ((kx_pw (E t).1 (E t).2 (nI t)).2.2.1), ((kx_pw (E t).1 (E t).2 (nI t)).2.2.2)) (((E t).2) + 1) (ce t)).2.2.1) ((kx_pw (((kx_pw (E t).1 (E t).2 (nI t)).1), ((kx_pw (E t).1 (E t).2 (nI t)).2.1), ((kx_pw (E t).1 (E t).2 (nI t)).2.2.1), ((kx_pw (E t).1 (E t).2 (nI t)).2.2.2)) (((E t).2) + 1) (ce t)).2.2.2)) H := hP
        have hD : va_D A (wX0 cA h0 q0 q1 q2 q3 q4 q5 ((kx_pw (((kx_pw (E t).1 (E t).2 (nI t)).1), ((kx_pw (E t).1 (E t).2 (nI t)).2.1), ((kx_pw (E t).1 (E t).2 (nI t)).2.2.1), ((kx_pw (E t).1 (E t).2 (nI t)).2.2.2)) (((E t).2) + 1) (ce t)).1) ce nm tl tc tw T n z ((kx_pw (((kx_pw (E t).1 (E t).2 (nI t)).1), ((kx_pw (E t).1 (E t).2 (nI t)).2.1), ((kx_pw (E t).1 (E t).2 (nI t)).2.2.1), ((kx_pw (E t).1 (E t).2 (nI t)).2.2.2)) (((E t).2) + 1) (ce t)).2.1) ((kx_pw (((kx_pw (E t).1 (E t).2 (nI t)).1), ((kx_pw (E t).1 (E t).2 (nI t)).2.1), ((kx_pw (E t).1 (E t).2 (nI t)).2.2.1), ((kx_pw (E t).1 (E t).2 (nI t)).2.2.2)) (((E t).2) + 1) (ce t)).2.2.1) ((kx_pw (((kx_pw (E t).1 (E t).2 (nI t)).1), ((kx_pw (E t).1 (E t).2 (nI t)).2.1), ((kx_pw (E t).1 (E t).2 (nI t)).2.2.1), ((kx_pw (E t).1 (E t).2 (nI t)).2.2.2)) (((E t).2) + 1) (ce t)).2.2.2)) := hD
        refine lv_iinc (v := (nI (((E t).2) + 2))) (lv' := [(2, .int (nI (((E t).2) + 2))), (0, .ref h0), (1, .int tr), (3, .int (nI t))]) hx hb dX0_writeEntries_38 hl (k := 2) rfl (kv_inc _ 2 (by decide)) (by decide) rfl (fun ls hl => ?_)
        refine lv_iinc (v := (nI (t + 1))) (lv' := [(3, .int (nI (t + 1))), (2, .int (nI (((E t).2) + 2))), (0, .ref h0), (1, .int tr)]) hx hb dX0_writeEntries_41 hl (k := 3) rfl (kv_inc _ 1 (by decide)) (by decide) rfl (fun ls hl => ?_)
        refine lv_goto (tgt := 5) hx hb dX0_writeEntries_44 (by decide) ?_
        have e1 : E (t + 1) = (kx_pw (kx_pw (E t).1 (E t).2 (nI t)) ((E t).2 + 1) (ce t), (E t).2 + 2) := by rw [hEs, if_neg h16_0]
        have hP : va_P (dC, dI) vwCl (wX0 cA h0 q0 q1 q2 q3 q4 q5 (((E (t + 1)).1).1) ce nm tl tc tw T n z (((E (t + 1)).1).2.1) (((E (t + 1)).1).2.2.1) (((E (t + 1)).1).2.2.2)) H := by rw [e1]; exact hP
        have hD : va_D A (wX0 cA h0 q0 q1 q2 q3 q4 q5 (((E (t + 1)).1).1) ce nm tl tc tw T n z (((E (t + 1)).1).2.1) (((E (t + 1)).1).2.2.1) (((E (t + 1)).1).2.2.2)) := by rw [e1]; exact hD
        have hl : lv_has ls 4 [(3, .int (nI (t + 1))), (2, .int (nI ((E (t + 1)).2))), (0, .ref h0), (1, .int tr)] := by rw [e1]; exact hl
        exact ih (t + 1) (by omega) _ _ _ hP hD hS (lv_sub hl [2, 3, 1, 0] rfl)
  exact lp 32 0 (by omega) _ _ _ hP hD hS (lv_sub hl [2, 3, 1, 0] rfl)
set_option maxHeartbeats 4000000 in
set_option maxRecDepth 100000 in
/-- NestCells.writeHomes  -/
theorem c_X0_writeHomes (l : Launch) (dC : Nat → ClassId) (dI : Nat → Nat → Nat) (cA : ClassId) (h0 q0 q1 q2 q3 q4 q5 : Nat) (w ce nm tl tc tw : Nat → Int32) (T n z : Nat) (wtc wia off : Int32) (tr : Int32)  : kMv l yX0_writeHomes wsX0_writeHomes ({ frames := 1, cells := 0, slots := 0, locals := 22 }) dC dI [(cA, .int)] (wX0 cA h0 q0 q1 q2 q3 q4 q5 w ce nm tl tc tw T n z wtc wia off) [.ref h0, .int tr] (wX0 cA h0 q0 q1 q2 q3 q4 q5 ((kx_wh tr ce (w, wtc, wia, off) 32).1) ce nm tl tc tw T n z ((kx_wh tr ce (w, wtc, wia, off) 32).2.1) ((kx_wh tr ce (w, wtc, wia, off) 32).2.2.1) ((kx_wh tr ce (w, wtc, wia, off) 32).2.2.2)) := by
  refine kMv_of (cc := cX0_writeHomes) (maxL := 3) (ret := none) (by decide) rfl (Nat.le_of_ble_eq_true rfl) ?_
  intro p e s m below meth c A ls hx hb hml hr hts hown hlocks hA hP hK hD hS hl
  have hin : ∀ w ∈ u_ws RX0 TX0 12, w ∈ wsX0_writeHomes := by decide +kernel
  have hl : lv_has ls 3 [(0, .ref h0), (1, .int tr)] := hl
  refine lv_iconst (v := (nI 0)) hx hb dX0_writeHomes_0 (by decide) ?_
  refine lv_istore_n (lv' := [(2, .int (nI 0)), (0, .ref h0), (1, .int tr)]) hx hb dX0_writeHomes_1 rfl hl (by decide) rfl (fun ls hl => ?_)
  obtain ⟨E, hE⟩ : ∃ E, E = kx_wh tr ce (w, wtc, wia, off) := ⟨_, rfl⟩
  have hEs : ∀ k, E (k + 1) = if kx_holds tr (nI k) = 0 then E k else kx_pw (E k) k (ce k) := fun k => by rw [hE]; rfl
  have hP : va_P (dC, dI) vwCl (wX0 cA h0 q0 q1 q2 q3 q4 q5 ((E 0).1) ce nm tl tc tw T n z ((E 0).2.1) ((E 0).2.2.1) ((E 0).2.2.2)) s.heap := by rw [hE]; exact hP
  have hD : va_D A (wX0 cA h0 q0 q1 q2 q3 q4 q5 ((E 0).1) ce nm tl tc tw T n z ((E 0).2.1) ((E 0).2.2.1) ((E 0).2.2.2)) := by rw [hE]; exact hD
  have lp : ∀ (k : Nat) (t : Nat), ∀ (_ : t + k = 32), ∀ (H : Heap) (locs : List Loc) (ls : Array Slot), va_P (dC, dI) vwCl (wX0 cA h0 q0 q1 q2 q3 q4 q5 ((E t).1) ce nm tl tc tw T n z ((E t).2.1) ((E t).2.2.1) ((E t).2.2.2)) H → va_D A (wX0 cA h0 q0 q1 q2 q3 q4 q5 ((E t).1) ce nm tl tc tw T n z ((E t).2.1) ((E t).2.2.1) ((E t).2.2.2)) → va_S A s.heap H locs → lv_has ls 3 [(0, .ref h0), (1, .int tr), (2, .int (nI t))] → W p l e (headSpec wsX0_writeHomes ({ frames := 1, cells := 0, slots := 0, locals := 22 })).room s m ([.ref h0, .int tr] : List Value).toArray below meth c H locs 0 0 (MQ below (va_Qv (fun (_ : Unit) => True) (kB dC dI [(cA, .int)] (wX0 cA h0 q0 q1 q2 q3 q4 q5 ((kx_wh tr ce (w, wtc, wia, off) 32).1) ce nm tl tc tw T n z ((kx_wh tr ce (w, wtc, wia, off) 32).2.1) ((kx_wh tr ce (w, wtc, wia, off) 32).2.2.1) ((kx_wh tr ce (w, wtc, wia, off) 32).2.2.2)) A) A) ([.ref h0, .int tr] : List Value).toArray s 0 0 A) (F0 m 2 ls []) := by
    intro k
    induction k with
    | zero =>
      intro t ht H locs ls hP hD hS hl
      refine lv_iload_n hx hb dX0_writeHomes_2 rfl (lv_at hl 2 rfl) ?_
      refine lv_bipush (v := (nI 32)) hx hb dX0_writeHomes_3 (by decide) ?_
      refine kv_ge (tgt := 33) hx hb (by omega) (by omega) dX0_writeHomes_5 (by decide) (fun h5_0 => ?_) (fun h5_0 => absurd h5_0 (by omega))
      exact kMv_ret hx hb hr hlocks hP hK hD hS dX0_writeHomes_33 (by rw [hE, show t = 32 by omega])
    | succ k ih =>
      intro t ht H locs ls hP hD hS hl
      refine lv_iload_n hx hb dX0_writeHomes_2 rfl (lv_at hl 2 rfl) ?_
      refine lv_bipush (v := (nI 32)) hx hb dX0_writeHomes_3 (by decide) ?_
      refine kv_ge (tgt := 33) hx hb (by omega) (by omega) dX0_writeHomes_5 (by decide) (fun h5_0 => absurd h5_0 (by omega)) (fun h5_0 => ?_)
      refine lv_iload_n hx hb dX0_writeHomes_8 rfl (lv_at hl 1 rfl) ?_
      refine lv_iload_n hx hb dX0_writeHomes_9 rfl (lv_at hl 2 rfl) ?_
      refine kv_Si (Xr := wX0 cA h0 q0 q1 q2 q3 q4 q5 ((E t).1) ce nm tl tc tw T n z ((E t).2.1) ((E t).2.2.1) ((E t).2.2.2)) (n := 2) (c_X0_holds l dC dI   tr (nI t) ) hx hb hml hown hts gX0_writeHomes_X0_holds rfl ⟨rfl, rfl⟩ (by decide +kernel) rfl ⟨Nat.le_of_ble_eq_true rfl, Nat.le_of_ble_eq_true rfl⟩ hK hP hD hS hA [] [] [0, 1, 2, 3, 4, 5, 6] rfl rfl rfl (by decide) (by decide) rfl (by decide) hl.1 rfl (Nat.le_of_ble_eq_true rfl) dX0_writeHomes_10 ⟨Nat.zero_le _, Nat.zero_le _⟩ (fun H locs hP hD hS => ?_)
      have hP : va_P (dC, dI) vwCl (wX0 cA h0 q0 q1 q2 q3 q4 q5 ((E t).1) ce nm tl tc tw T n z ((E t).2.1) ((E t).2.2.1) ((E t).2.2.2)) H := hP
      have hD : va_D A (wX0 cA h0 q0 q1 q2 q3 q4 q5 ((E t).1) ce nm tl tc tw T n z ((E t).2.1) ((E t).2.2.1) ((E t).2.2.2)) := hD
      refine lv_if_eq (tgt := 27) hx hb dX0_writeHomes_13 (by decide) (fun h13_0 => ?_) (fun h13_0 => ?_)
      · skip
        refine lv_iinc (v := (nI (t + 1))) (lv' := [(2, .int (nI (t + 1))), (0, .ref h0), (1, .int tr)]) hx hb dX0_writeHomes_27 hl (k := 2) rfl (kv_inc _ 1 (by decide)) (by decide) rfl (fun ls hl => ?_)
        refine lv_goto (tgt := 2) hx hb dX0_writeHomes_30 (by decide) ?_
        have e1 : E (t + 1) = E t := by rw [hEs, if_pos h13_0]
        have hP : va_P (dC, dI) vwCl (wX0 cA h0 q0 q1 q2 q3 q4 q5 ((E (t + 1)).1) ce nm tl tc tw T n z ((E (t + 1)).2.1) ((E (t + 1)).2.2.1) ((E (t + 1)).2.2.2)) H := by rw [e1]; exact hP
        have hD : va_D A (wX0 cA h0 q0 q1 q2 q3 q4 q5 ((E (t + 1)).1) ce nm tl tc tw T n z ((E (t + 1)).2.1) ((E (t + 1)).2.2.1) ((E (t + 1)).2.2.2)) := by rw [e1]; exact hD
        exact ih (t + 1) (by omega) _ _ _ hP hD hS (lv_sub hl [1, 2, 0] rfl)
      · skip
        refine lv_aload_n hx hb dX0_writeHomes_16 rfl (lv_at hl 0 rfl) ?_
        refine lv_iload_n hx hb dX0_writeHomes_17 rfl (lv_at hl 2 rfl) ?_
        refine lv_aload_n hx hb dX0_writeHomes_18 rfl (lv_at hl 0 rfl) ?_
        refine va_get (D := (dC, dI)) (ci := 0) (v := .ref q1) (C := RX0) (T := TX0) (N := 12) hx hb hts hin hown hK hP 0 rfl rfl 1 (by decide) (hts (.fieldLink RX0 13 "NestCells" "cells" "[I") (by decide +kernel)) (fun _ h9 => h9) rfl dX0_writeHomes_19 ?_
        refine lv_iload_n hx hb dX0_writeHomes_22 rfl (lv_at hl 2 rfl) ?_
        refine kv_iald hx hb hK hP 2 0 rfl rfl (by omega) (by omega) dX0_writeHomes_23 ?_
        refine kv_Vv (Xr := []) (n := 2) (c_X0_putWord l dC dI cA h0 q0 q1 q2 q3 q4 q5 ((E t).1) ce nm tl tc tw T n z ((E t).2.1) ((E t).2.2.1) ((E t).2.2.2) t (ce t) (by omega)) hx hb hml hown hts gX0_writeHomes_X0_putWord rfl ⟨rfl, rfl⟩ (by decide +kernel) rfl ⟨Nat.le_of_ble_eq_true rfl, Nat.le_of_ble_eq_true rfl⟩ hK hP hD hS hA [0] [0, 1, 2, 3, 4, 5, 6] [] rfl rfl rfl (by decide) (by decide) (q0 := 0) rfl rfl rfl (by decide) hl.1 rfl (Nat.le_of_ble_eq_true rfl) dX0_writeHomes_24 ⟨Nat.zero_le _, Nat.zero_le _⟩ (fun H locs hP hD hS => ?_)
        have hP : va_P (dC, dI) vwCl (wX0 cA h0 q0 q1 q2 q3 q4 q5 ((kx_pw (((E t).1), ((E t).2.1), ((E t).2.2.1), ((E t).2.2.2)) t (ce t)).1) ce nm tl tc tw T n z ((kx_pw (((E t).1), ((E t).2.1), ((E t).2.2.1), ((E t).2.2.2)) t (ce t)).2.1) ((kx_pw (((E t).1), ((E t).2.1), ((E t).2.2.1), ((E t).2.2.2)) t (ce t)).2.2.1) ((kx_pw (((E t).1), ((E t).2.1), ((E t).2.2.1), ((E t).2.2.2)) t (ce t)).2.2.2)) H := hP
        have hD : va_D A (wX0 cA h0 q0 q1 q2 q3 q4 q5 ((kx_pw (((E t).1), ((E t).2.1), ((E t).2.2.1), ((E t).2.2.2)) t (ce t)).1) ce nm tl tc tw T n z ((kx_pw (((E t).1), ((E t).2.1), ((E t).2.2.1), ((E t).2.2.2)) t (ce t)).2.1) ((kx_pw (((E t).1), ((E t).2.1), ((E t).2.2.1), ((E t).2.2.2)) t (ce t)).2.2.1) ((kx_pw (((E t).1), ((E t).2.1), ((E t).2.2.1), ((E t).2.2.2)) t (ce t)).2.2.2)) := hD
        refine lv_iinc (v := (nI (t + 1))) (lv' := [(2, .int (nI (t + 1))), (0, .ref h0), (1, .int tr)]) hx hb dX0_writeHomes_27 hl (k := 2) rfl (kv_inc _ 1 (by decide)) (by decide) rfl (fun ls hl => ?_)
        refine lv_goto (tgt := 2) hx hb dX0_writeHomes_30 (by decide) ?_
        have e1 : E (t + 1) = kx_pw (E t) t (ce t) := by rw [hEs, if_neg h13_0]
        have hP : va_P (dC, dI) vwCl (wX0 cA h0 q0 q1 q2 q3 q4 q5 ((E (t + 1)).1) ce nm tl tc tw T n z ((E (t + 1)).2.1) ((E (t + 1)).2.2.1) ((E (t + 1)).2.2.2)) H := by rw [e1]; exact hP
        have hD : va_D A (wX0 cA h0 q0 q1 q2 q3 q4 q5 ((E (t + 1)).1) ce nm tl tc tw T n z ((E (t + 1)).2.1) ((E (t + 1)).2.2.1) ((E (t + 1)).2.2.2)) := by rw [e1]; exact hD
        exact ih (t + 1) (by omega) _ _ _ hP hD hS (lv_sub hl [1, 2, 0] rfl)
  exact lp 32 0 (by omega) _ _ _ hP hD hS (lv_sub hl [1, 2, 0] rfl)
set_option maxHeartbeats 4000000 in
set_option maxRecDepth 100000 in
/-- NestCells.keepOnDisk  -/
theorem c_X0_keepOnDisk (l : Launch) (dC : Nat → ClassId) (dI : Nat → Nat → Nat) (cA : ClassId) (h0 q0 q1 q2 q3 q4 q5 : Nat) (w ce nm tl tc tw : Nat → Int32) (T n z : Nat) (wtc wia off : Int32)  (hz : z ≤ 60) : kMv l yX0_keepOnDisk wsX0_keepOnDisk ({ frames := 2, cells := 0, slots := 0, locals := 45 }) dC dI [(cA, .int)] (wX0 cA h0 q0 q1 q2 q3 q4 q5 w ce nm tl tc tw T n z wtc wia off) [.ref h0] (wX0 cA h0 q0 q1 q2 q3 q4 q5 ((kx_kd (kx_tc tl tc (nI 0) z) ce (w, wtc, wia, off)).1) ce nm tl tc tw T n z ((kx_kd (kx_tc tl tc (nI 0) z) ce (w, wtc, wia, off)).2.1) ((kx_kd (kx_tc tl tc (nI 0) z) ce (w, wtc, wia, off)).2.2.1) ((kx_kd (kx_tc tl tc (nI 0) z) ce (w, wtc, wia, off)).2.2.2)) := by
  refine kMv_of (cc := cX0_keepOnDisk) (maxL := 3) (ret := none) (by decide) rfl (Nat.le_of_ble_eq_true rfl) ?_
  intro p e s m below meth c A ls hx hb hml hr hts hown hlocks hA hP hK hD hS hl
  have hin : ∀ w ∈ u_ws RX0 TX0 12, w ∈ wsX0_keepOnDisk := by decide +kernel
  have hl : lv_has ls 3 [(0, .ref h0)] := hl
  refine lv_aload_n hx hb dX0_keepOnDisk_0 rfl (lv_at hl 0 rfl) ?_
  refine lv_iconst (v := (nI 0)) hx hb dX0_keepOnDisk_1 (by decide) ?_
  refine kv_Vi (Xr := []) (n := 1) (c_X0_tracedCells l dC dI cA h0 q0 q1 q2 q3 q4 q5 w ce nm tl tc tw T n z wtc wia off (nI 0) (by omega)) hx hb hml hown hts gX0_keepOnDisk_X0_tracedCells rfl ⟨rfl, rfl⟩ (by decide +kernel) rfl ⟨Nat.le_of_ble_eq_true rfl, Nat.le_of_ble_eq_true rfl⟩ hK hP hD hS hA [0] [0, 1, 2, 3, 4, 5, 6] [] rfl rfl rfl (by decide) (by decide) (q0 := 0) rfl rfl rfl (by decide) hl.1 rfl (Nat.le_of_ble_eq_true rfl) dX0_keepOnDisk_2 ⟨Nat.zero_le _, Nat.zero_le _⟩ (fun H locs hP hD hS => ?_)
  have hP : va_P (dC, dI) vwCl (wX0 cA h0 q0 q1 q2 q3 q4 q5 w ce nm tl tc tw T n z wtc wia off) H := hP
  have hD : va_D A (wX0 cA h0 q0 q1 q2 q3 q4 q5 w ce nm tl tc tw T n z wtc wia off) := hD
  refine lv_istore_n (lv' := [(1, .int (kx_tc tl tc (nI 0) z)), (0, .ref h0)]) hx hb dX0_keepOnDisk_5 rfl hl (by decide) rfl (fun ls hl => ?_)
  refine lv_iload_n hx hb dX0_keepOnDisk_6 rfl (lv_at hl 0 rfl) ?_
  refine kv_Si (Xr := wX0 cA h0 q0 q1 q2 q3 q4 q5 w ce nm tl tc tw T n z wtc wia off) (n := 1) (c_J6_bitCount_0f7a4 l dC dI   (kx_tc tl tc (nI 0) z) ) hx hb hml hown hts gX0_keepOnDisk_J6_bitCount_0f7a4 rfl ⟨rfl, rfl⟩ (by decide +kernel) rfl ⟨Nat.le_of_ble_eq_true rfl, Nat.le_of_ble_eq_true rfl⟩ hK hP hD hS hA [] [] [0, 1, 2, 3, 4, 5, 6] rfl rfl rfl (by decide) (by decide) rfl (by decide) hl.1 rfl (Nat.le_of_ble_eq_true rfl) dX0_keepOnDisk_7 ⟨Nat.zero_le _, Nat.zero_le _⟩ (fun H locs hP hD hS => ?_)
  have hP : va_P (dC, dI) vwCl (wX0 cA h0 q0 q1 q2 q3 q4 q5 w ce nm tl tc tw T n z wtc wia off) H := hP
  have hD : va_D A (wX0 cA h0 q0 q1 q2 q3 q4 q5 w ce nm tl tc tw T n z wtc wia off) := hD
  refine lv_istore_n (lv' := [(2, .int (kx_bc (kx_tc tl tc (nI 0) z))), (1, .int (kx_tc tl tc (nI 0) z)), (0, .ref h0)]) hx hb dX0_keepOnDisk_10 rfl hl (by decide) rfl (fun ls hl => ?_)
  refine lv_aload_n hx hb dX0_keepOnDisk_11 rfl (lv_at hl 2 rfl) ?_
  refine lv_iload_n hx hb dX0_keepOnDisk_12 rfl (lv_at hl 1 rfl) ?_
  refine kv_Vv (Xr := []) (n := 1) (c_X0_writeEntries l dC dI cA h0 q0 q1 q2 q3 q4 q5 w ce nm tl tc tw T n z wtc wia off (kx_tc tl tc (nI 0) z) ) hx hb hml hown hts gX0_keepOnDisk_X0_writeEntries rfl ⟨rfl, rfl⟩ (by decide +kernel) rfl ⟨Nat.le_of_ble_eq_true rfl, Nat.le_of_ble_eq_true rfl⟩ hK hP hD hS hA [0] [0, 1, 2, 3, 4, 5, 6] [] rfl rfl rfl (by decide) (by decide) (q0 := 0) rfl rfl rfl (by decide) hl.1 rfl (Nat.le_of_ble_eq_true rfl) dX0_keepOnDisk_13 ⟨Nat.zero_le _, Nat.zero_le _⟩ (fun H locs hP hD hS => ?_)
  have hP : va_P (dC, dI) vwCl (wX0 cA h0 q0 q1 q2 q3 q4 q5 (((kx_we (kx_tc tl tc (nI 0) z) ce (w, wtc, wia, off) 32).1).1) ce nm tl tc tw T n z (((kx_we (kx_tc tl tc (nI 0) z) ce (w, wtc, wia, off) 32).1).2.1) (((kx_we (kx_tc tl tc (nI 0) z) ce (w, wtc, wia, off) 32).1).2.2.1) (((kx_we (kx_tc tl tc (nI 0) z) ce (w, wtc, wia, off) 32).1).2.2.2)) H := hP
  have hD : va_D A (wX0 cA h0 q0 q1 q2 q3 q4 q5 (((kx_we (kx_tc tl tc (nI 0) z) ce (w, wtc, wia, off) 32).1).1) ce nm tl tc tw T n z (((kx_we (kx_tc tl tc (nI 0) z) ce (w, wtc, wia, off) 32).1).2.1) (((kx_we (kx_tc tl tc (nI 0) z) ce (w, wtc, wia, off) 32).1).2.2.1) (((kx_we (kx_tc tl tc (nI 0) z) ce (w, wtc, wia, off) 32).1).2.2.2)) := hD
  have hP : va_P (dC, dI) vwCl (wX0 cA h0 q0 q1 q2 q3 q4 q5 ((kx_k1 (kx_tc tl tc (nI 0) z) ce (w, wtc, wia, off)).1) ce nm tl tc tw T n z ((kx_k1 (kx_tc tl tc (nI 0) z) ce (w, wtc, wia, off)).2.1) ((kx_k1 (kx_tc tl tc (nI 0) z) ce (w, wtc, wia, off)).2.2.1) ((kx_k1 (kx_tc tl tc (nI 0) z) ce (w, wtc, wia, off)).2.2.2)) H := by exact hP
  have hD : va_D A (wX0 cA h0 q0 q1 q2 q3 q4 q5 ((kx_k1 (kx_tc tl tc (nI 0) z) ce (w, wtc, wia, off)).1) ce nm tl tc tw T n z ((kx_k1 (kx_tc tl tc (nI 0) z) ce (w, wtc, wia, off)).2.1) ((kx_k1 (kx_tc tl tc (nI 0) z) ce (w, wtc, wia, off)).2.2.1) ((kx_k1 (kx_tc tl tc (nI 0) z) ce (w, wtc, wia, off)).2.2.2)) := by exact hD
  refine lv_aload_n hx hb dX0_keepOnDisk_16 rfl (lv_at hl 2 rfl) ?_
  refine lv_bipush (v := (nI 33)) hx hb dX0_keepOnDisk_17 (by decide) ?_
  refine lv_aload_n hx hb dX0_keepOnDisk_19 rfl (lv_at hl 2 rfl) ?_
  refine va_get (D := (dC, dI)) (ci := 0) (v := .ref q0) (C := RX0) (T := TX0) (N := 12) hx hb hts hin hown hK hP 0 rfl rfl 0 (by decide) (hts (.fieldLink RX0 9 "NestCells" "words" "[I") (by decide +kernel)) (fun _ h9 => h9) rfl dX0_keepOnDisk_20 ?_
  refine lv_bipush (v := (nI 33)) hx hb dX0_keepOnDisk_23 (by decide) ?_
  refine kv_iald hx hb hK hP 1 0 rfl rfl (by omega) (by omega) dX0_keepOnDisk_25 ?_
  refine lv_iconst (v := (nI 1)) hx hb dX0_keepOnDisk_26 (by decide) ?_
  refine lv_iadd hx hb dX0_keepOnDisk_27 ?_
  refine kv_Vv (Xr := []) (n := 2) (c_X0_putWord l dC dI cA h0 q0 q1 q2 q3 q4 q5 ((kx_k1 (kx_tc tl tc (nI 0) z) ce (w, wtc, wia, off)).1) ce nm tl tc tw T n z ((kx_k1 (kx_tc tl tc (nI 0) z) ce (w, wtc, wia, off)).2.1) ((kx_k1 (kx_tc tl tc (nI 0) z) ce (w, wtc, wia, off)).2.2.1) ((kx_k1 (kx_tc tl tc (nI 0) z) ce (w, wtc, wia, off)).2.2.2) 33 ((((kx_k1 (kx_tc tl tc (nI 0) z) ce (w, wtc, wia, off)).1) 33) + (nI 1)) (by omega)) hx hb hml hown hts gX0_keepOnDisk_X0_putWord rfl ⟨rfl, rfl⟩ (by decide +kernel) rfl ⟨Nat.le_of_ble_eq_true rfl, Nat.le_of_ble_eq_true rfl⟩ hK hP hD hS hA [0] [0, 1, 2, 3, 4, 5, 6] [] rfl rfl rfl (by decide) (by decide) (q0 := 0) rfl rfl rfl (by decide) hl.1 rfl (Nat.le_of_ble_eq_true rfl) dX0_keepOnDisk_28 ⟨Nat.zero_le _, Nat.zero_le _⟩ (fun H locs hP hD hS => ?_)
  have hP : va_P (dC, dI) vwCl (wX0 cA h0 q0 q1 q2 q3 q4 q5 ((kx_pw (((kx_k1 (kx_tc tl tc (nI 0) z) ce (w, wtc, wia, off)).1), ((kx_k1 (kx_tc tl tc (nI 0) z) ce (w, wtc, wia, off)).2.1), ((kx_k1 (kx_tc tl tc (nI 0) z) ce (w, wtc, wia, off)).2.2.1), ((kx_k1 (kx_tc tl tc (nI 0) z) ce (w, wtc, wia, off)).2.2.2)) 33 ((((kx_k1 (kx_tc tl tc (nI 0) z) ce (w, wtc, wia, off)).1) 33) + (nI 1))).1) ce nm tl tc tw T n z ((kx_pw (((kx_k1 (kx_tc tl tc (nI 0) z) ce (w, wtc, wia, off)).1), ((kx_k1 (kx_tc tl tc (nI 0) z) ce (w, wtc, wia, off)).2.1), ((kx_k1 (kx_tc tl tc (nI 0) z) ce (w, wtc, wia, off)).2.2.1), ((kx_k1 (kx_tc tl tc (nI 0) z) ce (w, wtc, wia, off)).2.2.2)) 33 ((((kx_k1 (kx_tc tl tc (nI 0) z) ce (w, wtc, wia, off)).1) 33) + (nI 1))).2.1) ((kx_pw (((kx_k1 (kx_tc tl tc (nI 0) z) ce (w, wtc, wia, off)).1), ((kx_k1 (kx_tc tl tc (nI 0) z) ce (w, wtc, wia, off)).2.1), ((kx_k1 (kx_tc tl tc (nI 0) z) ce (w, wtc, wia, off)).2.2.1), ((kx_k1 (kx_tc tl tc (nI 0) z) ce (w, wtc, wia, off)).2.2.2)) 33 ((((kx_k1 (kx_tc tl tc (nI 0) z) ce (w, wtc, wia, off)).1) 33) + (nI 1))).2.2.1) ((kx_pw (((kx_k1 (kx_tc tl tc (nI 0) z) ce (w, wtc, wia, off)).1), ((kx_k1 (kx_tc tl tc (nI 0) z) ce (w, wtc, wia, off)).2.1), ((kx_k1 (kx_tc tl tc (nI 0) z) ce (w, wtc, wia, off)).2.2.1), ((kx_k1 (kx_tc tl tc (nI 0) z) ce (w, wtc, wia, off)).2.2.2)) 33 ((((kx_k1 (kx_tc tl tc (nI 0) z) ce (w, wtc, wia, off)).1) 33) + (nI 1))).2.2.2)) H := hP
  have hD : va_D A (wX0 cA h0 q0 q1 q2 q3 q4 q5 ((kx_pw (((kx_k1 (kx_tc tl tc (nI 0) z) ce (w, wtc, wia, off)).1), ((kx_k1 (kx_tc tl tc (nI 0) z) ce (w, wtc, wia, off)).2.1), ((kx_k1 (kx_tc tl tc (nI 0) z) ce (w, wtc, wia, off)).2.2.1), ((kx_k1 (kx_tc tl tc (nI 0) z) ce (w, wtc, wia, off)).2.2.2)) 33 ((((kx_k1 (kx_tc tl tc (nI 0) z) ce (w, wtc, wia, off)).1) 33) + (nI 1))).1) ce nm tl tc tw T n z ((kx_pw (((kx_k1 (kx_tc tl tc (nI 0) z) ce (w, wtc, wia, off)).1), ((kx_k1 (kx_tc tl tc (nI 0) z) ce (w, wtc, wia, off)).2.1), ((kx_k1 (kx_tc tl tc (nI 0) z) ce (w, wtc, wia, off)).2.2.1), ((kx_k1 (kx_tc tl tc (nI 0) z) ce (w, wtc, wia, off)).2.2.2)) 33 ((((kx_k1 (kx_tc tl tc (nI 0) z) ce (w, wtc, wia, off)).1) 33) + (nI 1))).2.1) ((kx_pw (((kx_k1 (kx_tc tl tc (nI 0) z) ce (w, wtc, wia, off)).1), ((kx_k1 (kx_tc tl tc (nI 0) z) ce (w, wtc, wia, off)).2.1), ((kx_k1 (kx_tc tl tc (nI 0) z) ce (w, wtc, wia, off)).2.2.1), ((kx_k1 (kx_tc tl tc (nI 0) z) ce (w, wtc, wia, off)).2.2.2)) 33 ((((kx_k1 (kx_tc tl tc (nI 0) z) ce (w, wtc, wia, off)).1) 33) + (nI 1))).2.2.1) ((kx_pw (((kx_k1 (kx_tc tl tc (nI 0) z) ce (w, wtc, wia, off)).1), ((kx_k1 (kx_tc tl tc (nI 0) z) ce (w, wtc, wia, off)).2.1), ((kx_k1 (kx_tc tl tc (nI 0) z) ce (w, wtc, wia, off)).2.2.1), ((kx_k1 (kx_tc tl tc (nI 0) z) ce (w, wtc, wia, off)).2.2.2)) 33 ((((kx_k1 (kx_tc tl tc (nI 0) z) ce (w, wtc, wia, off)).1) 33) + (nI 1))).2.2.2)) := hD
  have hP : va_P (dC, dI) vwCl (wX0 cA h0 q0 q1 q2 q3 q4 q5 ((kx_k2 (kx_tc tl tc (nI 0) z) ce (w, wtc, wia, off)).1) ce nm tl tc tw T n z ((kx_k2 (kx_tc tl tc (nI 0) z) ce (w, wtc, wia, off)).2.1) ((kx_k2 (kx_tc tl tc (nI 0) z) ce (w, wtc, wia, off)).2.2.1) ((kx_k2 (kx_tc tl tc (nI 0) z) ce (w, wtc, wia, off)).2.2.2)) H := by exact hP
  have hD : va_D A (wX0 cA h0 q0 q1 q2 q3 q4 q5 ((kx_k2 (kx_tc tl tc (nI 0) z) ce (w, wtc, wia, off)).1) ce nm tl tc tw T n z ((kx_k2 (kx_tc tl tc (nI 0) z) ce (w, wtc, wia, off)).2.1) ((kx_k2 (kx_tc tl tc (nI 0) z) ce (w, wtc, wia, off)).2.2.1) ((kx_k2 (kx_tc tl tc (nI 0) z) ce (w, wtc, wia, off)).2.2.2)) := by exact hD
  refine lv_iload_n hx hb dX0_keepOnDisk_31 rfl (lv_at hl 0 rfl) ?_
  refine lv_if_le (tgt := 54) hx hb dX0_keepOnDisk_32 (by decide) (fun h32_0 => ?_) (fun h32_0 => ?_)
  · skip
    exact kMv_ret hx hb hr hlocks hP hK hD hS dX0_keepOnDisk_54 (by rw [kx_kd, if_pos h32_0])
  · skip
    refine lv_aload_n hx hb dX0_keepOnDisk_35 rfl (lv_at hl 2 rfl) ?_
    refine lv_bipush (v := (nI 32)) hx hb dX0_keepOnDisk_36 (by decide) ?_
    refine lv_iload_n hx hb dX0_keepOnDisk_38 rfl (lv_at hl 0 rfl) ?_
    refine kv_Vv (Xr := []) (n := 2) (c_X0_putWord l dC dI cA h0 q0 q1 q2 q3 q4 q5 ((kx_k2 (kx_tc tl tc (nI 0) z) ce (w, wtc, wia, off)).1) ce nm tl tc tw T n z ((kx_k2 (kx_tc tl tc (nI 0) z) ce (w, wtc, wia, off)).2.1) ((kx_k2 (kx_tc tl tc (nI 0) z) ce (w, wtc, wia, off)).2.2.1) ((kx_k2 (kx_tc tl tc (nI 0) z) ce (w, wtc, wia, off)).2.2.2) 32 (kx_bc (kx_tc tl tc (nI 0) z)) (by omega)) hx hb hml hown hts gX0_keepOnDisk_X0_putWord rfl ⟨rfl, rfl⟩ (by decide +kernel) rfl ⟨Nat.le_of_ble_eq_true rfl, Nat.le_of_ble_eq_true rfl⟩ hK hP hD hS hA [0] [0, 1, 2, 3, 4, 5, 6] [] rfl rfl rfl (by decide) (by decide) (q0 := 0) rfl rfl rfl (by decide) hl.1 rfl (Nat.le_of_ble_eq_true rfl) dX0_keepOnDisk_39 ⟨Nat.zero_le _, Nat.zero_le _⟩ (fun H locs hP hD hS => ?_)
    have hP : va_P (dC, dI) vwCl (wX0 cA h0 q0 q1 q2 q3 q4 q5 ((kx_pw (((kx_k2 (kx_tc tl tc (nI 0) z) ce (w, wtc, wia, off)).1), ((kx_k2 (kx_tc tl tc (nI 0) z) ce (w, wtc, wia, off)).2.1), ((kx_k2 (kx_tc tl tc (nI 0) z) ce (w, wtc, wia, off)).2.2.1), ((kx_k2 (kx_tc tl tc (nI 0) z) ce (w, wtc, wia, off)).2.2.2)) 32 (kx_bc (kx_tc tl tc (nI 0) z))).1) ce nm tl tc tw T n z ((kx_pw (((kx_k2 (kx_tc tl tc (nI 0) z) ce (w, wtc, wia, off)).1), ((kx_k2 (kx_tc tl tc (nI 0) z) ce (w, wtc, wia, off)).2.1), ((kx_k2 (kx_tc tl tc (nI 0) z) ce (w, wtc, wia, off)).2.2.1), ((kx_k2 (kx_tc tl tc (nI 0) z) ce (w, wtc, wia, off)).2.2.2)) 32 (kx_bc (kx_tc tl tc (nI 0) z))).2.1) ((kx_pw (((kx_k2 (kx_tc tl tc (nI 0) z) ce (w, wtc, wia, off)).1), ((kx_k2 (kx_tc tl tc (nI 0) z) ce (w, wtc, wia, off)).2.1), ((kx_k2 (kx_tc tl tc (nI 0) z) ce (w, wtc, wia, off)).2.2.1), ((kx_k2 (kx_tc tl tc (nI 0) z) ce (w, wtc, wia, off)).2.2.2)) 32 (kx_bc (kx_tc tl tc (nI 0) z))).2.2.1) ((kx_pw (((kx_k2 (kx_tc tl tc (nI 0) z) ce (w, wtc, wia, off)).1), ((kx_k2 (kx_tc tl tc (nI 0) z) ce (w, wtc, wia, off)).2.1), ((kx_k2 (kx_tc tl tc (nI 0) z) ce (w, wtc, wia, off)).2.2.1), ((kx_k2 (kx_tc tl tc (nI 0) z) ce (w, wtc, wia, off)).2.2.2)) 32 (kx_bc (kx_tc tl tc (nI 0) z))).2.2.2)) H := hP
    have hD : va_D A (wX0 cA h0 q0 q1 q2 q3 q4 q5 ((kx_pw (((kx_k2 (kx_tc tl tc (nI 0) z) ce (w, wtc, wia, off)).1), ((kx_k2 (kx_tc tl tc (nI 0) z) ce (w, wtc, wia, off)).2.1), ((kx_k2 (kx_tc tl tc (nI 0) z) ce (w, wtc, wia, off)).2.2.1), ((kx_k2 (kx_tc tl tc (nI 0) z) ce (w, wtc, wia, off)).2.2.2)) 32 (kx_bc (kx_tc tl tc (nI 0) z))).1) ce nm tl tc tw T n z ((kx_pw (((kx_k2 (kx_tc tl tc (nI 0) z) ce (w, wtc, wia, off)).1), ((kx_k2 (kx_tc tl tc (nI 0) z) ce (w, wtc, wia, off)).2.1), ((kx_k2 (kx_tc tl tc (nI 0) z) ce (w, wtc, wia, off)).2.2.1), ((kx_k2 (kx_tc tl tc (nI 0) z) ce (w, wtc, wia, off)).2.2.2)) 32 (kx_bc (kx_tc tl tc (nI 0) z))).2.1) ((kx_pw (((kx_k2 (kx_tc tl tc (nI 0) z) ce (w, wtc, wia, off)).1), ((kx_k2 (kx_tc tl tc (nI 0) z) ce (w, wtc, wia, off)).2.1), ((kx_k2 (kx_tc tl tc (nI 0) z) ce (w, wtc, wia, off)).2.2.1), ((kx_k2 (kx_tc tl tc (nI 0) z) ce (w, wtc, wia, off)).2.2.2)) 32 (kx_bc (kx_tc tl tc (nI 0) z))).2.2.1) ((kx_pw (((kx_k2 (kx_tc tl tc (nI 0) z) ce (w, wtc, wia, off)).1), ((kx_k2 (kx_tc tl tc (nI 0) z) ce (w, wtc, wia, off)).2.1), ((kx_k2 (kx_tc tl tc (nI 0) z) ce (w, wtc, wia, off)).2.2.1), ((kx_k2 (kx_tc tl tc (nI 0) z) ce (w, wtc, wia, off)).2.2.2)) 32 (kx_bc (kx_tc tl tc (nI 0) z))).2.2.2)) := hD
    have hP : va_P (dC, dI) vwCl (wX0 cA h0 q0 q1 q2 q3 q4 q5 ((kx_pw (kx_k2 (kx_tc tl tc (nI 0) z) ce (w, wtc, wia, off)) 32 (kx_bc (kx_tc tl tc (nI 0) z))).1) ce nm tl tc tw T n z ((kx_pw (kx_k2 (kx_tc tl tc (nI 0) z) ce (w, wtc, wia, off)) 32 (kx_bc (kx_tc tl tc (nI 0) z))).2.1) ((kx_pw (kx_k2 (kx_tc tl tc (nI 0) z) ce (w, wtc, wia, off)) 32 (kx_bc (kx_tc tl tc (nI 0) z))).2.2.1) ((kx_pw (kx_k2 (kx_tc tl tc (nI 0) z) ce (w, wtc, wia, off)) 32 (kx_bc (kx_tc tl tc (nI 0) z))).2.2.2)) H := by exact hP
    have hD : va_D A (wX0 cA h0 q0 q1 q2 q3 q4 q5 ((kx_pw (kx_k2 (kx_tc tl tc (nI 0) z) ce (w, wtc, wia, off)) 32 (kx_bc (kx_tc tl tc (nI 0) z))).1) ce nm tl tc tw T n z ((kx_pw (kx_k2 (kx_tc tl tc (nI 0) z) ce (w, wtc, wia, off)) 32 (kx_bc (kx_tc tl tc (nI 0) z))).2.1) ((kx_pw (kx_k2 (kx_tc tl tc (nI 0) z) ce (w, wtc, wia, off)) 32 (kx_bc (kx_tc tl tc (nI 0) z))).2.2.1) ((kx_pw (kx_k2 (kx_tc tl tc (nI 0) z) ce (w, wtc, wia, off)) 32 (kx_bc (kx_tc tl tc (nI 0) z))).2.2.2)) := by exact hD
    refine lv_aload_n hx hb dX0_keepOnDisk_42 rfl (lv_at hl 2 rfl) ?_
    refine lv_iload_n hx hb dX0_keepOnDisk_43 rfl (lv_at hl 1 rfl) ?_
    refine kv_Vv (Xr := []) (n := 1) (c_X0_writeHomes l dC dI cA h0 q0 q1 q2 q3 q4 q5 ((kx_pw (kx_k2 (kx_tc tl tc (nI 0) z) ce (w, wtc, wia, off)) 32 (kx_bc (kx_tc tl tc (nI 0) z))).1) ce nm tl tc tw T n z ((kx_pw (kx_k2 (kx_tc tl tc (nI 0) z) ce (w, wtc, wia, off)) 32 (kx_bc (kx_tc tl tc (nI 0) z))).2.1) ((kx_pw (kx_k2 (kx_tc tl tc (nI 0) z) ce (w, wtc, wia, off)) 32 (kx_bc (kx_tc tl tc (nI 0) z))).2.2.1) ((kx_pw (kx_k2 (kx_tc tl tc (nI 0) z) ce (w, wtc, wia, off)) 32 (kx_bc (kx_tc tl tc (nI 0) z))).2.2.2) (kx_tc tl tc (nI 0) z) ) hx hb hml hown hts gX0_keepOnDisk_X0_writeHomes rfl ⟨rfl, rfl⟩ (by decide +kernel) rfl ⟨Nat.le_of_ble_eq_true rfl, Nat.le_of_ble_eq_true rfl⟩ hK hP hD hS hA [0] [0, 1, 2, 3, 4, 5, 6] [] rfl rfl rfl (by decide) (by decide) (q0 := 0) rfl rfl rfl (by decide) hl.1 rfl (Nat.le_of_ble_eq_true rfl) dX0_keepOnDisk_44 ⟨Nat.zero_le _, Nat.zero_le _⟩ (fun H locs hP hD hS => ?_)
    have hP : va_P (dC, dI) vwCl (wX0 cA h0 q0 q1 q2 q3 q4 q5 ((kx_wh (kx_tc tl tc (nI 0) z) ce (((kx_pw (kx_k2 (kx_tc tl tc (nI 0) z) ce (w, wtc, wia, off)) 32 (kx_bc (kx_tc tl tc (nI 0) z))).1), ((kx_pw (kx_k2 (kx_tc tl tc (nI 0) z) ce (w, wtc, wia, off)) 32 (kx_bc (kx_tc tl tc (nI 0) z))).2.1), ((kx_pw (kx_k2 (kx_tc tl tc (nI 0) z) ce (w, wtc, wia, off)) 32 (kx_bc (kx_tc tl tc (nI 0) z))).2.2.1), ((kx_pw (kx_k2 (kx_tc tl tc (nI 0) z) ce (w, wtc, wia, off)) 32 (kx_bc (kx_tc tl tc (nI 0) z))).2.2.2)) 32).1) ce nm tl tc tw T n z ((kx_wh (kx_tc tl tc (nI 0) z) ce (((kx_pw (kx_k2 (kx_tc tl tc (nI 0) z) ce (w, wtc, wia, off)) 32 (kx_bc (kx_tc tl tc (nI 0) z))).1), ((kx_pw (kx_k2 (kx_tc tl tc (nI 0) z) ce (w, wtc, wia, off)) 32 (kx_bc (kx_tc tl tc (nI 0) z))).2.1), ((kx_pw (kx_k2 (kx_tc tl tc (nI 0) z) ce (w, wtc, wia, off)) 32 (kx_bc (kx_tc tl tc (nI 0) z))).2.2.1), ((kx_pw (kx_k2 (kx_tc tl tc (nI 0) z) ce (w, wtc, wia, off)) 32 (kx_bc (kx_tc tl tc (nI 0) z))).2.2.2)) 32).2.1) ((kx_wh (kx_tc tl tc (nI 0) z) ce (((kx_pw (kx_k2 (kx_tc tl tc (nI 0) z) ce (w, wtc, wia, off)) 32 (kx_bc (kx_tc tl tc (nI 0) z))).1), ((kx_pw (kx_k2 (kx_tc tl tc (nI 0) z) ce (w, wtc, wia, off)) 32 (kx_bc (kx_tc tl tc (nI 0) z))).2.1), ((kx_pw (kx_k2 (kx_tc tl tc (nI 0) z) ce (w, wtc, wia, off)) 32 (kx_bc (kx_tc tl tc (nI 0) z))).2.2.1), ((kx_pw (kx_k2 (kx_tc tl tc (nI 0) z) ce (w, wtc, wia, off)) 32 (kx_bc (kx_tc tl tc (nI 0) z))).2.2.2)) 32).2.2.1) ((kx_wh (kx_tc tl tc (nI 0) z) ce (((kx_pw (kx_k2 (kx_tc tl tc (nI 0) z) ce (w, wtc, wia, off)) 32 (kx_bc (kx_tc tl tc (nI 0) z))).1), ((kx_pw (kx_k2 (kx_tc tl tc (nI 0) z) ce (w, wtc, wia, off)) 32 (kx_bc (kx_tc tl tc (nI 0) z))).2.1), ((kx_pw (kx_k2 (kx_tc tl tc (nI 0) z) ce (w, wtc, wia, off)) 32 (kx_bc (kx_tc tl tc (nI 0) z))).2.2.1), ((kx_pw (kx_k2 (kx_tc tl tc (nI 0) z) ce (w, wtc, wia, off)) 32 (kx_bc (kx_tc tl tc (nI 0) z))).2.2.2)) 32).2.2.2)) H := hP
    have hD : va_D A (wX0 cA h0 q0 q1 q2 q3 q4 q5 ((kx_wh (kx_tc tl tc (nI 0) z) ce (((kx_pw (kx_k2 (kx_tc tl tc (nI 0) z) ce (w, wtc, wia, off)) 32 (kx_bc (kx_tc tl tc (nI 0) z))).1), ((kx_pw (kx_k2 (kx_tc tl tc (nI 0) z) ce (w, wtc, wia, off)) 32 (kx_bc (kx_tc tl tc (nI 0) z))).2.1), ((kx_pw (kx_k2 (kx_tc tl tc (nI 0) z) ce (w, wtc, wia, off)) 32 (kx_bc (kx_tc tl tc (nI 0) z))).2.2.1), ((kx_pw (kx_k2 (kx_tc tl tc (nI 0) z) ce (w, wtc, wia, off)) 32 (kx_bc (kx_tc tl tc (nI 0) z))).2.2.2)) 32).1) ce nm tl tc tw T n z ((kx_wh (kx_tc tl tc (nI 0) z) ce (((kx_pw (kx_k2 (kx_tc tl tc (nI 0) z) ce (w, wtc, wia, off)) 32 (kx_bc (kx_tc tl tc (nI 0) z))).1), ((kx_pw (kx_k2 (kx_tc tl tc (nI 0) z) ce (w, wtc, wia, off)) 32 (kx_bc (kx_tc tl tc (nI 0) z))).2.1), ((kx_pw (kx_k2 (kx_tc tl tc (nI 0) z) ce (w, wtc, wia, off)) 32 (kx_bc (kx_tc tl tc (nI 0) z))).2.2.1), ((kx_pw (kx_k2 (kx_tc tl tc (nI 0) z) ce (w, wtc, wia, off)) 32 (kx_bc (kx_tc tl tc (nI 0) z))).2.2.2)) 32).2.1) ((kx_wh (kx_tc tl tc (nI 0) z) ce (((kx_pw (kx_k2 (kx_tc tl tc (nI 0) z) ce (w, wtc, wia, off)) 32 (kx_bc (kx_tc tl tc (nI 0) z))).1), ((kx_pw (kx_k2 (kx_tc tl tc (nI 0) z) ce (w, wtc, wia, off)) 32 (kx_bc (kx_tc tl tc (nI 0) z))).2.1), ((kx_pw (kx_k2 (kx_tc tl tc (nI 0) z) ce (w, wtc, wia, off)) 32 (kx_bc (kx_tc tl tc (nI 0) z))).2.2.1), ((kx_pw (kx_k2 (kx_tc tl tc (nI 0) z) ce (w, wtc, wia, off)) 32 (kx_bc (kx_tc tl tc (nI 0) z))).2.2.2)) 32).2.2.1) ((kx_wh (kx_tc tl tc (nI 0) z) ce (((kx_pw (kx_k2 (kx_tc tl tc (nI 0) z) ce (w, wtc, wia, off)) 32 (kx_bc (kx_tc tl tc (nI 0) z))).1), ((kx_pw (kx_k2 (kx_tc tl tc (nI 0) z) ce (w, wtc, wia, off)) 32 (kx_bc (kx_tc tl tc (nI 0) z))).2.1), ((kx_pw (kx_k2 (kx_tc tl tc (nI 0) z) ce (w, wtc, wia, off)) 32 (kx_bc (kx_tc tl tc (nI 0) z))).2.2.1), ((kx_pw (kx_k2 (kx_tc tl tc (nI 0) z) ce (w, wtc, wia, off)) 32 (kx_bc (kx_tc tl tc (nI 0) z))).2.2.2)) 32).2.2.2)) := hD
    have hP : va_P (dC, dI) vwCl (wX0 cA h0 q0 q1 q2 q3 q4 q5 ((kx_wh (kx_tc tl tc (nI 0) z) ce (kx_pw (kx_k2 (kx_tc tl tc (nI 0) z) ce (w, wtc, wia, off)) 32 (kx_bc (kx_tc tl tc (nI 0) z))) 32).1) ce nm tl tc tw T n z ((kx_wh (kx_tc tl tc (nI 0) z) ce (kx_pw (kx_k2 (kx_tc tl tc (nI 0) z) ce (w, wtc, wia, off)) 32 (kx_bc (kx_tc tl tc (nI 0) z))) 32).2.1) ((kx_wh (kx_tc tl tc (nI 0) z) ce (kx_pw (kx_k2 (kx_tc tl tc (nI 0) z) ce (w, wtc, wia, off)) 32 (kx_bc (kx_tc tl tc (nI 0) z))) 32).2.2.1) ((kx_wh (kx_tc tl tc (nI 0) z) ce (kx_pw (kx_k2 (kx_tc tl tc (nI 0) z) ce (w, wtc, wia, off)) 32 (kx_bc (kx_tc tl tc (nI 0) z))) 32).2.2.2)) H := by exact hP
    have hD : va_D A (wX0 cA h0 q0 q1 q2 q3 q4 q5 ((kx_wh (kx_tc tl tc (nI 0) z) ce (kx_pw (kx_k2 (kx_tc tl tc (nI 0) z) ce (w, wtc, wia, off)) 32 (kx_bc (kx_tc tl tc (nI 0) z))) 32).1) ce nm tl tc tw T n z ((kx_wh (kx_tc tl tc (nI 0) z) ce (kx_pw (kx_k2 (kx_tc tl tc (nI 0) z) ce (w, wtc, wia, off)) 32 (kx_bc (kx_tc tl tc (nI 0) z))) 32).2.1) ((kx_wh (kx_tc tl tc (nI 0) z) ce (kx_pw (kx_k2 (kx_tc tl tc (nI 0) z) ce (w, wtc, wia, off)) 32 (kx_bc (kx_tc tl tc (nI 0) z))) 32).2.2.1) ((kx_wh (kx_tc tl tc (nI 0) z) ce (kx_pw (kx_k2 (kx_tc tl tc (nI 0) z) ce (w, wtc, wia, off)) 32 (kx_bc (kx_tc tl tc (nI 0) z))) 32).2.2.2)) := by exact hD
    refine lv_aload_n hx hb dX0_keepOnDisk_47 rfl (lv_at hl 2 rfl) ?_
    refine lv_bipush (v := (nI 32)) hx hb dX0_keepOnDisk_48 (by decide) ?_
    refine lv_iconst (v := (nI 0)) hx hb dX0_keepOnDisk_50 (by decide) ?_
    refine kv_Vv (Xr := []) (n := 2) (c_X0_putWord l dC dI cA h0 q0 q1 q2 q3 q4 q5 ((kx_wh (kx_tc tl tc (nI 0) z) ce (kx_pw (kx_k2 (kx_tc tl tc (nI 0) z) ce (w, wtc, wia, off)) 32 (kx_bc (kx_tc tl tc (nI 0) z))) 32).1) ce nm tl tc tw T n z ((kx_wh (kx_tc tl tc (nI 0) z) ce (kx_pw (kx_k2 (kx_tc tl tc (nI 0) z) ce (w, wtc, wia, off)) 32 (kx_bc (kx_tc tl tc (nI 0) z))) 32).2.1) ((kx_wh (kx_tc tl tc (nI 0) z) ce (kx_pw (kx_k2 (kx_tc tl tc (nI 0) z) ce (w, wtc, wia, off)) 32 (kx_bc (kx_tc tl tc (nI 0) z))) 32).2.2.1) ((kx_wh (kx_tc tl tc (nI 0) z) ce (kx_pw (kx_k2 (kx_tc tl tc (nI 0) z) ce (w, wtc, wia, off)) 32 (kx_bc (kx_tc tl tc (nI 0) z))) 32).2.2.2) 32 (nI 0) (by omega)) hx hb hml hown hts gX0_keepOnDisk_X0_putWord rfl ⟨rfl, rfl⟩ (by decide +kernel) rfl ⟨Nat.le_of_ble_eq_true rfl, Nat.le_of_ble_eq_true rfl⟩ hK hP hD hS hA [0] [0, 1, 2, 3, 4, 5, 6] [] rfl rfl rfl (by decide) (by decide) (q0 := 0) rfl rfl rfl (by decide) hl.1 rfl (Nat.le_of_ble_eq_true rfl) dX0_keepOnDisk_51 ⟨Nat.zero_le _, Nat.zero_le _⟩ (fun H locs hP hD hS => ?_)
    have hP : va_P (dC, dI) vwCl (wX0 cA h0 q0 q1 q2 q3 q4 q5 ((kx_pw (((kx_wh (kx_tc tl tc (nI 0) z) ce (kx_pw (kx_k2 (kx_tc tl tc (nI 0) z) ce (w, wtc, wia, off)) 32 (kx_bc (kx_tc tl tc (nI 0) z))) 32).1), ((kx_wh (kx_tc tl tc (nI 0) z) ce (kx_pw (kx_k2 (kx_tc tl tc (nI 0) z) ce (w, wtc, wia, off)) 32 (kx_bc (kx_tc tl tc (nI 0) z))) 32).2.1), ((kx_wh (kx_tc tl tc (nI 0) z) ce (kx_pw (kx_k2 (kx_tc tl tc (nI 0) z) ce (w, wtc, wia, off)) 32 (kx_bc (kx_tc tl tc (nI 0) z))) 32).2.2.1), ((kx_wh (kx_tc tl tc (nI 0) z) ce (kx_pw (kx_k2 (kx_tc tl tc (nI 0) z) ce (w, wtc, wia, off)) 32 (kx_bc (kx_tc tl tc (nI 0) z))) 32).2.2.2)) 32 (nI 0)).1) ce nm tl tc tw T n z ((kx_pw (((kx_wh (kx_tc tl tc (nI 0) z) ce (kx_pw (kx_k2 (kx_tc tl tc (nI 0) z) ce (w, wtc, wia, off)) 32 (kx_bc (kx_tc tl tc (nI 0) z))) 32).1), ((kx_wh (kx_tc tl tc (nI 0) z) ce (kx_pw (kx_k2 (kx_tc tl tc (nI 0) z) ce (w, wtc, wia, off)) 32 (kx_bc (kx_tc tl tc (nI 0) z))) 32).2.1), ((kx_wh (kx_tc tl tc (nI 0) z) ce (kx_pw (kx_k2 (kx_tc tl tc (nI 0) z) ce (w, wtc, wia, off)) 32 (kx_bc (kx_tc tl tc (nI 0) z))) 32).2.2.1), ((kx_wh (kx_tc tl tc (nI 0) z) ce (kx_pw (kx_k2 (kx_tc tl tc (nI 0) z) ce (w, wtc, wia, off)) 32 (kx_bc (kx_tc tl tc (nI 0) z))) 32).2.2.2)) 32 (nI 0)).2.1) ((kx_pw (((kx_wh (kx_tc tl tc (nI 0) z) ce (kx_pw (kx_k2 (kx_tc tl tc (nI 0) z) ce (w, wtc, wia, off)) 32 (kx_bc (kx_tc tl tc (nI 0) z))) 32).1), ((kx_wh (kx_tc tl tc (nI 0) z) ce (kx_pw (kx_k2 (kx_tc tl tc (nI 0) z) ce (w, wtc, wia, off)) 32 (kx_bc (kx_tc tl tc (nI 0) z))) 32).2.1), ((kx_wh (kx_tc tl tc (nI 0) z) ce (kx_pw (kx_k2 (kx_tc tl tc (nI 0) z) ce (w, wtc, wia, off)) 32 (kx_bc (kx_tc tl tc (nI 0) z))) 32).2.2.1), ((kx_wh (kx_tc tl tc (nI 0) z) ce (kx_pw (kx_k2 (kx_tc tl tc (nI 0) z) ce (w, wtc, wia, off)) 32 (kx_bc (kx_tc tl tc (nI 0) z))) 32).2.2.2)) 32 (nI 0)).2.2.1) ((kx_pw (((kx_wh (kx_tc tl tc (nI 0) z) ce (kx_pw (kx_k2 (kx_tc tl tc (nI 0) z) ce (w, wtc, wia, off)) 32 (kx_bc (kx_tc tl tc (nI 0) z))) 32).1), ((kx_wh (kx_tc tl tc (nI 0) z) ce (kx_pw (kx_k2 (kx_tc tl tc (nI 0) z) ce (w, wtc, wia, off)) 32 (kx_bc (kx_tc tl tc (nI 0) z))) 32).2.1), ((kx_wh (kx_tc tl tc (nI 0) z) ce (kx_pw (kx_k2 (kx_tc tl tc (nI 0) z) ce (w, wtc, wia, off)) 32 (kx_bc (kx_tc tl tc (nI 0) z))) 32).2.2.1), ((kx_wh (kx_tc tl tc (nI 0) z) ce (kx_pw (kx_k2 (kx_tc tl tc (nI 0) z) ce (w, wtc, wia, off)) 32 (kx_bc (kx_tc tl tc (nI 0) z))) 32).2.2.2)) 32 (nI 0)).2.2.2)) H := hP
    have hD : va_D A (wX0 cA h0 q0 q1 q2 q3 q4 q5 ((kx_pw (((kx_wh (kx_tc tl tc (nI 0) z) ce (kx_pw (kx_k2 (kx_tc tl tc (nI 0) z) ce (w, wtc, wia, off)) 32 (kx_bc (kx_tc tl tc (nI 0) z))) 32).1), ((kx_wh (kx_tc tl tc (nI 0) z) ce (kx_pw (kx_k2 (kx_tc tl tc (nI 0) z) ce (w, wtc, wia, off)) 32 (kx_bc (kx_tc tl tc (nI 0) z))) 32).2.1), ((kx_wh (kx_tc tl tc (nI 0) z) ce (kx_pw (kx_k2 (kx_tc tl tc (nI 0) z) ce (w, wtc, wia, off)) 32 (kx_bc (kx_tc tl tc (nI 0) z))) 32).2.2.1), ((kx_wh (kx_tc tl tc (nI 0) z) ce (kx_pw (kx_k2 (kx_tc tl tc (nI 0) z) ce (w, wtc, wia, off)) 32 (kx_bc (kx_tc tl tc (nI 0) z))) 32).2.2.2)) 32 (nI 0)).1) ce nm tl tc tw T n z ((kx_pw (((kx_wh (kx_tc tl tc (nI 0) z) ce (kx_pw (kx_k2 (kx_tc tl tc (nI 0) z) ce (w, wtc, wia, off)) 32 (kx_bc (kx_tc tl tc (nI 0) z))) 32).1), ((kx_wh (kx_tc tl tc (nI 0) z) ce (kx_pw (kx_k2 (kx_tc tl tc (nI 0) z) ce (w, wtc, wia, off)) 32 (kx_bc (kx_tc tl tc (nI 0) z))) 32).2.1), ((kx_wh (kx_tc tl tc (nI 0) z) ce (kx_pw (kx_k2 (kx_tc tl tc (nI 0) z) ce (w, wtc, wia, off)) 32 (kx_bc (kx_tc tl tc (nI 0) z))) 32).2.2.1), ((kx_wh (kx_tc tl tc (nI 0) z) ce (kx_pw (kx_k2 (kx_tc tl tc (nI 0) z) ce (w, wtc, wia, off)) 32 (kx_bc (kx_tc tl tc (nI 0) z))) 32).2.2.2)) 32 (nI 0)).2.1) ((kx_pw (((kx_wh (kx_tc tl tc (nI 0) z) ce (kx_pw (kx_k2 (kx_tc tl tc (nI 0) z) ce (w, wtc, wia, off)) 32 (kx_bc (kx_tc tl tc (nI 0) z))) 32).1), ((kx_wh (kx_tc tl tc (nI 0) z) ce (kx_pw (kx_k2 (kx_tc tl tc (nI 0) z) ce (w, wtc, wia, off)) 32 (kx_bc (kx_tc tl tc (nI 0) z))) 32).2.1), ((kx_wh (kx_tc tl tc (nI 0) z) ce (kx_pw (kx_k2 (kx_tc tl tc (nI 0) z) ce (w, wtc, wia, off)) 32 (kx_bc (kx_tc tl tc (nI 0) z))) 32).2.2.1), ((kx_wh (kx_tc tl tc (nI 0) z) ce (kx_pw (kx_k2 (kx_tc tl tc (nI 0) z) ce (w, wtc, wia, off)) 32 (kx_bc (kx_tc tl tc (nI 0) z))) 32).2.2.2)) 32 (nI 0)).2.2.1) ((kx_pw (((kx_wh (kx_tc tl tc (nI 0) z) ce (kx_pw (kx_k2 (kx_tc tl tc (nI 0) z) ce (w, wtc, wia, off)) 32 (kx_bc (kx_tc tl tc (nI 0) z))) 32).1), ((kx_wh (kx_tc tl tc (nI 0) z) ce (kx_pw (kx_k2 (kx_tc tl tc (nI 0) z) ce (w, wtc, wia, off)) 32 (kx_bc (kx_tc tl tc (nI 0) z))) 32).2.1), ((kx_wh (kx_tc tl tc (nI 0) z) ce (kx_pw (kx_k2 (kx_tc tl tc (nI 0) z) ce (w, wtc, wia, off)) 32 (kx_bc (kx_tc tl tc (nI 0) z))) 32).2.2.1), ((kx_wh (kx_tc tl tc (nI 0) z) ce (kx_pw (kx_k2 (kx_tc tl tc (nI 0) z) ce (w, wtc, wia, off)) 32 (kx_bc (kx_tc tl tc (nI 0) z))) 32).2.2.2)) 32 (nI 0)).2.2.2)) := hD
    exact kMv_ret hx hb hr hlocks hP hK hD hS dX0_keepOnDisk_54 (by rw [kx_kd, if_neg h32_0])
set_option maxHeartbeats 4000000 in
set_option maxRecDepth 100000 in
/-- NestCells.writeHomesFromEntries  -/
theorem c_X0_writeHomesFromEntries (l : Launch) (dC : Nat → ClassId) (dI : Nat → Nat → Nat) (cA : ClassId) (h0 q0 q1 q2 q3 q4 q5 : Nat) (w ce nm tl tc tw : Nat → Int32) (T n z : Nat) (wtc wia off : Int32) (cnt : Nat) (hcnt : cnt ≤ 32) : kMi l yX0_writeHomesFromEntries wsX0_writeHomesFromEntries ({ frames := 1, cells := 0, slots := 0, locals := 22 }) dC dI [(cA, .int)] (wX0 cA h0 q0 q1 q2 q3 q4 q5 w ce nm tl tc tw T n z wtc wia off) [.ref h0, .int (nI cnt)] (nI ((kx_hf (w, wtc, wia, off) cnt).2)) (wX0 cA h0 q0 q1 q2 q3 q4 q5 (((kx_hf (w, wtc, wia, off) cnt).1).1) ce nm tl tc tw T n z (((kx_hf (w, wtc, wia, off) cnt).1).2.1) (((kx_hf (w, wtc, wia, off) cnt).1).2.2.1) (((kx_hf (w, wtc, wia, off) cnt).1).2.2.2)) := by
  refine kMi_of (cc := cX0_writeHomesFromEntries) (maxL := 5) (ret := (some .int)) (by decide) rfl (Nat.le_of_ble_eq_true rfl) ?_
  intro p e s m below meth c A ls hx hb hml hr hts hown hlocks hA hP hK hD hS hl
  have hin : ∀ w ∈ u_ws RX0 TX0 12, w ∈ wsX0_writeHomesFromEntries := by decide +kernel
  have hl : lv_has ls 5 [(0, .ref h0), (1, .int (nI cnt))] := hl
  refine lv_iconst (v := (nI 0)) hx hb dX0_writeHomesFromEntries_0 (by decide) ?_
  refine lv_istore_n (lv' := [(2, .int (nI 0)), (0, .ref h0), (1, .int (nI cnt))]) hx hb dX0_writeHomesFromEntries_1 rfl hl (by decide) rfl (fun ls hl => ?_)
  refine lv_iconst (v := (nI 0)) hx hb dX0_writeHomesFromEntries_2 (by decide) ?_
  refine lv_istore_n (lv' := [(3, .int (nI 0)), (2, .int (nI 0)), (0, .ref h0), (1, .int (nI cnt))]) hx hb dX0_writeHomesFromEntries_3 rfl hl (by decide) rfl (fun ls hl => ?_)
  obtain ⟨E, hE⟩ : ∃ E, E = kx_hf (w, wtc, wia, off) := ⟨_, rfl⟩
  have hEl : ∀ k, (E k).2 ≤ k := fun k => by rw [hE]; exact kx_hf_le _ k
  have hEs : ∀ k, E (k + 1) = if kx_isCell ((E k).1.1 (34 + 2 * k)) = 0 then E k else (kx_pw (E k).1 ((E k).1.1 (34 + 2 * k)).toNatClampNeg ((E k).1.1 (34 + 2 * k + 1)), (E k).2 + 1) := fun k => by rw [hE]; rfl
  have hP : va_P (dC, dI) vwCl (wX0 cA h0 q0 q1 q2 q3 q4 q5 (((E 0).1).1) ce nm tl tc tw T n z (((E 0).1).2.1) (((E 0).1).2.2.1) (((E 0).1).2.2.2)) s.heap := by rw [hE]; exact hP
  have hD : va_D A (wX0 cA h0 q0 q1 q2 q3 q4 q5 (((E 0).1).1) ce nm tl tc tw T n z (((E 0).1).2.1) (((E 0).1).2.2.1) (((E 0).1).2.2.2)) := by rw [hE]; exact hD
  have hl : lv_has ls 5 [(3, .int (nI 0)), (2, .int (nI ((E 0).2))), (0, .ref h0), (1, .int (nI cnt))] := by rw [hE]; exact hl
  have lp : ∀ (k : Nat) (t : Nat), ∀ (_ : t + k = cnt), ∀ (H : Heap) (locs : List Loc) (ls : Array Slot), va_P (dC, dI) vwCl (wX0 cA h0 q0 q1 q2 q3 q4 q5 (((E t).1).1) ce nm tl tc tw T n z (((E t).1).2.1) (((E t).1).2.2.1) (((E t).1).2.2.2)) H → va_D A (wX0 cA h0 q0 q1 q2 q3 q4 q5 (((E t).1).1) ce nm tl tc tw T n z (((E t).1).2.1) (((E t).1).2.2.1) (((E t).1).2.2.2)) → va_S A s.heap H locs → lv_has ls 5 [(0, .ref h0), (1, .int (nI cnt)), (2, .int (nI ((E t).2))), (3, .int (nI t))] → W p l e (headSpec wsX0_writeHomesFromEntries ({ frames := 1, cells := 0, slots := 0, locals := 22 })).room s m ([.ref h0, .int (nI cnt)] : List Value).toArray below meth c H locs 0 0 (MQ below (va_Qi (fun (r' : Int32) (_ : Unit) => r' = (nI ((kx_hf (w, wtc, wia, off) cnt).2))) (kB dC dI [(cA, .int)] (wX0 cA h0 q0 q1 q2 q3 q4 q5 (((kx_hf (w, wtc, wia, off) cnt).1).1) ce nm tl tc tw T n z (((kx_hf (w, wtc, wia, off) cnt).1).2.1) (((kx_hf (w, wtc, wia, off) cnt).1).2.2.1) (((kx_hf (w, wtc, wia, off) cnt).1).2.2.2)) A) A) ([.ref h0, .int (nI cnt)] : List Value).toArray s 0 0 A) (F0 m 4 ls []) := by
    intro k
    induction k with
    | zero =>
      intro t ht H locs ls hP hD hS hl
      refine lv_iload_n hx hb dX0_writeHomesFromEntries_4 rfl (lv_at hl 3 rfl) ?_
      refine lv_iload_n hx hb dX0_writeHomesFromEntries_5 rfl (lv_at hl 1 rfl) ?_
      refine kv_ge (tgt := 58) hx hb (by omega) (by omega) dX0_writeHomesFromEntries_6 (by decide) (fun h6_0 => ?_) (fun h6_0 => absurd h6_0 (by omega))
      refine lv_iload_n hx hb dX0_writeHomesFromEntries_58 rfl (lv_at hl 2 rfl) ?_
      exact kMi_ret hx hb hr hlocks hP hK hD hS dX0_writeHomesFromEntries_59 (by rw [hE, show t = cnt by omega]) (by rw [hE, show t = cnt by omega])
    | succ k ih =>
      intro t ht H locs ls hP hD hS hl
      have hEt := hEl t
      refine lv_iload_n hx hb dX0_writeHomesFromEntries_4 rfl (lv_at hl 3 rfl) ?_
      refine lv_iload_n hx hb dX0_writeHomesFromEntries_5 rfl (lv_at hl 1 rfl) ?_
      refine kv_ge (tgt := 58) hx hb (by omega) (by omega) dX0_writeHomesFromEntries_6 (by decide) (fun h6_0 => absurd h6_0 (by omega)) (fun h6_0 => ?_)
      refine lv_aload_n hx hb dX0_writeHomesFromEntries_9 rfl (lv_at hl 0 rfl) ?_
      refine va_get (D := (dC, dI)) (ci := 0) (v := .ref q0) (C := RX0) (T := TX0) (N := 12) hx hb hts hin hown hK hP 0 rfl rfl 0 (by decide) (hts (.fieldLink RX0 9 "NestCells" "words" "[I") (by decide +kernel)) (fun _ h9 => h9) rfl dX0_writeHomesFromEntries_10 ?_
      refine lv_bipush (v := (nI 34)) hx hb dX0_writeHomesFromEntries_13 (by decide) ?_
      refine lv_iconst (v := (nI 2)) hx hb dX0_writeHomesFromEntries_15 (by decide) ?_
      refine lv_iload_n hx hb dX0_writeHomesFromEntries_16 rfl (lv_at hl 3 rfl) ?_
      refine kv_mul hx hb dX0_writeHomesFromEntries_17 ?_
      refine kv_addE (d := 34 + (2 * t)) hx hb (by omega) dX0_writeHomesFromEntries_18 ?_
      refine kv_iald hx hb hK hP 1 0 rfl rfl (by omega) (by omega) dX0_writeHomesFromEntries_19 ?_
      refine lv_istore (lv' := [(4, .int ((((E t).1).1) (34 + (2 * t)))), (0, .ref h0), (1, .int (nI cnt)), (2, .int (nI ((E t).2))), (3, .int (nI t))]) hx hb dX0_writeHomesFromEntries_20 hl (by decide) rfl (fun ls hl => ?_)
      refine lv_iload hx hb dX0_writeHomesFromEntries_22 (lv_at hl 0 rfl) ?_
      refine kv_Si (Xr := wX0 cA h0 q0 q1 q2 q3 q4 q5 (((E t).1).1) ce nm tl tc tw T n z (((E t).1).2.1) (((E t).1).2.2.1) (((E t).1).2.2.2)) (n := 1) (c_X0_isCell l dC dI   ((((E t).1).1) (34 + (2 * t))) ) hx hb hml hown hts gX0_writeHomesFromEntries_X0_isCell rfl ⟨rfl, rfl⟩ (by decide +kernel) rfl ⟨Nat.le_of_ble_eq_true rfl, Nat.le_of_ble_eq_true rfl⟩ hK hP hD hS hA [] [] [0, 1, 2, 3, 4, 5, 6] rfl rfl rfl (by decide) (by decide) rfl (by decide) hl.1 rfl (Nat.le_of_ble_eq_true rfl) dX0_writeHomesFromEntries_24 ⟨Nat.zero_le _, Nat.zero_le _⟩ (fun H locs hP hD hS => ?_)
      have hP : va_P (dC, dI) vwCl (wX0 cA h0 q0 q1 q2 q3 q4 q5 (((E t).1).1) ce nm tl tc tw T n z (((E t).1).2.1) (((E t).1).2.2.1) (((E t).1).2.2.2)) H := hP
      have hD : va_D A (wX0 cA h0 q0 q1 q2 q3 q4 q5 (((E t).1).1) ce nm tl tc tw T n z (((E t).1).2.1) (((E t).1).2.2.1) (((E t).1).2.2.2)) := hD
      refine lv_if_eq (tgt := 52) hx hb dX0_writeHomesFromEntries_27 (by decide) (fun h27_0 => ?_) (fun h27_0 => ?_)
      · skip
        refine lv_iinc (v := (nI (t + 1))) (lv' := [(3, .int (nI (t + 1))), (4, .int ((((E t).1).1) (34 + (2 * t)))), (0, .ref h0), (1, .int (nI cnt)), (2, .int (nI ((E t).2)))]) hx hb dX0_writeHomesFromEntries_52 hl (k := 4) rfl (kv_inc _ 1 (by decide)) (by decide) rfl (fun ls hl => ?_)
        refine lv_goto (tgt := 4) hx hb dX0_writeHomesFromEntries_55 (by decide) ?_
        have e1 : E (t + 1) = E t := by rw [hEs, if_pos h27_0]
        have hP : va_P (dC, dI) vwCl (wX0 cA h0 q0 q1 q2 q3 q4 q5 (((E (t + 1)).1).1) ce nm tl tc tw T n z (((E (t + 1)).1).2.1) (((E (t + 1)).1).2.2.1) (((E (t + 1)).1).2.2.2)) H := by rw [e1]; exact hP
        have hD : va_D A (wX0 cA h0 q0 q1 q2 q3 q4 q5 (((E (t + 1)).1).1) ce nm tl tc tw T n z (((E (t + 1)).1).2.1) (((E (t + 1)).1).2.2.1) (((E (t + 1)).1).2.2.2)) := by rw [e1]; exact hD
        have hl : lv_has ls 5 [(3, .int (nI (t + 1))), (4, .int ((((E t).1).1) (34 + (2 * t)))), (0, .ref h0), (1, .int (nI cnt)), (2, .int (nI ((E (t + 1)).2)))] := by rw [e1]; exact hl
        exact ih (t + 1) (by omega) _ _ _ hP hD hS (lv_sub hl [2, 3, 4, 0] rfl)
      · skip
        obtain ⟨ci, hci, eci⟩ := kx_isCell_of h27_0
        have hl : lv_has ls 5 [(4, .int (nI ci)), (0, .ref h0), (1, .int (nI cnt)), (2, .int (nI ((E t).2))), (3, .int (nI t))] := by rw [← eci]; exact hl
        refine lv_aload_n hx hb dX0_writeHomesFromEntries_30 rfl (lv_at hl 1 rfl) ?_
        refine lv_iload hx hb dX0_writeHomesFromEntries_31 (lv_at hl 0 rfl) ?_
        refine lv_aload_n hx hb dX0_writeHomesFromEntries_33 rfl (lv_at hl 1 rfl) ?_
        refine va_get (D := (dC, dI)) (ci := 0) (v := .ref q0) (C := RX0) (T := TX0) (N := 12) hx hb hts hin hown hK hP 0 rfl rfl 0 (by decide) (hts (.fieldLink RX0 9 "NestCells" "words" "[I") (by decide +kernel)) (fun _ h9 => h9) rfl dX0_writeHomesFromEntries_34 ?_
        refine lv_bipush (v := (nI 34)) hx hb dX0_writeHomesFromEntries_37 (by decide) ?_
        refine lv_iconst (v := (nI 2)) hx hb dX0_writeHomesFromEntries_39 (by decide) ?_
        refine lv_iload_n hx hb dX0_writeHomesFromEntries_40 rfl (lv_at hl 4 rfl) ?_
        refine kv_mul hx hb dX0_writeHomesFromEntries_41 ?_
        refine kv_addE (d := 34 + (2 * t)) hx hb (by omega) dX0_writeHomesFromEntries_42 ?_
        refine lv_iconst (v := (nI 1)) hx hb dX0_writeHomesFromEntries_43 (by decide) ?_
        refine kv_addE (d := (34 + (2 * t)) + 1) hx hb (by omega) dX0_writeHomesFromEntries_44 ?_
        refine kv_iald hx hb hK hP 1 0 rfl rfl (by omega) (by omega) dX0_writeHomesFromEntries_45 ?_
        refine kv_Vv (Xr := []) (n := 2) (c_X0_putWord l dC dI cA h0 q0 q1 q2 q3 q4 q5 (((E t).1).1) ce nm tl tc tw T n z (((E t).1).2.1) (((E t).1).2.2.1) (((E t).1).2.2.2) ci ((((E t).1).1) ((34 + (2 * t)) + 1)) (by omega)) hx hb hml hown hts gX0_writeHomesFromEntries_X0_putWord rfl ⟨rfl, rfl⟩ (by decide +kernel) rfl ⟨Nat.le_of_ble_eq_true rfl, Nat.le_of_ble_eq_true rfl⟩ hK hP hD hS hA [0] [0, 1, 2, 3, 4, 5, 6] [] rfl rfl rfl (by decide) (by decide) (q0 := 0) rfl rfl rfl (by decide) hl.1 rfl (Nat.le_of_ble_eq_true rfl) dX0_writeHomesFromEntries_46 ⟨Nat.zero_le _, Nat.zero_le _⟩ (fun H locs hP hD hS => ?_)
        have hP : va_P (dC, dI) vwCl (wX0 cA h0 q0 q1 q2 q3 q4 q5 ((kx_pw ((((E t).1).1), (((E t).1).2.1), (((E t).1).2.2.1), (((E t).1).2.2.2)) ci ((((E t).1).1) ((34 + (2 * t)) + 1))).1) ce nm tl tc tw T n z ((kx_pw ((((E t).1).1), (((E t).1).2.1), (((E t).1).2.2.1), (((E t).1).2.2.2)) ci ((((E t).1).1) ((34 + (2 * t)) + 1))).2.1) ((kx_pw ((((E t).1).1), (((E t).1).2.1), (((E t).1).2.2.1), (((E t).1).2.2.2)) ci ((((E t).1).1) ((34 + (2 * t)) + 1))).2.2.1) ((kx_pw ((((E t).1).1), (((E t).1).2.1), (((E t).1).2.2.1), (((E t).1).2.2.2)) ci ((((E t).1).1) ((34 + (2 * t)) + 1))).2.2.2)) H := hP
        have hD : va_D A (wX0 cA h0 q0 q1 q2 q3 q4 q5 ((kx_pw ((((E t).1).1), (((E t).1).2.1), (((E t).1).2.2.1), (((E t).1).2.2.2)) ci ((((E t).1).1) ((34 + (2 * t)) + 1))).1) ce nm tl tc tw T n z ((kx_pw ((((E t).1).1), (((E t).1).2.1), (((E t).1).2.2.1), (((E t).1).2.2.2)) ci ((((E t).1).1) ((34 + (2 * t)) + 1))).2.1) ((kx_pw ((((E t).1).1), (((E t).1).2.1), (((E t).1).2.2.1), (((E t).1).2.2.2)) ci ((((E t).1).1) ((34 + (2 * t)) + 1))).2.2.1) ((kx_pw ((((E t).1).1), (((E t).1).2.1), (((E t).1).2.2.1), (((E t).1).2.2.2)) ci ((((E t).1).1) ((34 + (2 * t)) + 1))).2.2.2)) := hD
        refine lv_iinc (v := (nI (((E t).2) + 1))) (lv' := [(2, .int (nI (((E t).2) + 1))), (4, .int (nI ci)), (0, .ref h0), (1, .int (nI cnt)), (3, .int (nI t))]) hx hb dX0_writeHomesFromEntries_49 hl (k := 3) rfl (kv_inc _ 1 (by decide)) (by decide) rfl (fun ls hl => ?_)
        refine lv_iinc (v := (nI (t + 1))) (lv' := [(3, .int (nI (t + 1))), (2, .int (nI (((E t).2) + 1))), (4, .int (nI ci)), (0, .ref h0), (1, .int (nI cnt))]) hx hb dX0_writeHomesFromEntries_52 hl (k := 4) rfl (kv_inc _ 1 (by decide)) (by decide) rfl (fun ls hl => ?_)
        refine lv_goto (tgt := 4) hx hb dX0_writeHomesFromEntries_55 (by decide) ?_
        have e1 : E (t + 1) = (kx_pw (E t).1 ci ((E t).1.1 (34 + 2 * t + 1)), (E t).2 + 1) := by rw [hEs, if_neg h27_0, eci, nI_clamp (by omega)]
        have hP : va_P (dC, dI) vwCl (wX0 cA h0 q0 q1 q2 q3 q4 q5 (((E (t + 1)).1).1) ce nm tl tc tw T n z (((E (t + 1)).1).2.1) (((E (t + 1)).1).2.2.1) (((E (t + 1)).1).2.2.2)) H := by rw [e1]; exact hP
        have hD : va_D A (wX0 cA h0 q0 q1 q2 q3 q4 q5 (((E (t + 1)).1).1) ce nm tl tc tw T n z (((E (t + 1)).1).2.1) (((E (t + 1)).1).2.2.1) (((E (t + 1)).1).2.2.2)) := by rw [e1]; exact hD
        have hl : lv_has ls 5 [(3, .int (nI (t + 1))), (2, .int (nI ((E (t + 1)).2))), (4, .int (nI ci)), (0, .ref h0), (1, .int (nI cnt))] := by rw [e1]; exact hl
        exact ih (t + 1) (by omega) _ _ _ hP hD hS (lv_sub hl [3, 4, 1, 0] rfl)
  exact lp cnt 0 (by omega) _ _ _ hP hD hS (lv_sub hl [2, 3, 1, 0] rfl)
end
section
set_option maxHeartbeats 4000000 in
set_option maxRecDepth 100000 in
/-- NestCells.format  -/
theorem c_X0_format (l : Launch) (dC : Nat → ClassId) (dI : Nat → Nat → Nat) (cA : ClassId) (h0 q0 q1 q2 q3 q4 q5 : Nat) (w ce nm tl tc tw : Nat → Int32) (T n z : Nat) (wtc wia off : Int32)   : kMv l yX0_format wsX0_format ({ frames := 1, cells := 0, slots := 0, locals := 23 }) dC dI [(cA, .int)] (wX0 cA h0 q0 q1 q2 q3 q4 q5 w ce nm tl tc tw T n z wtc wia off) [.ref h0] (wX0 cA h0 q0 q1 q2 q3 q4 q5 (kx_fill w (nI 0) 98) (kx_fill ce (nI 0) 32) nm tl tc tw 0 0 0 (nI 0) (nI 0) (nI 0)) := by
  refine kMv_of (cc := cX0_format) (maxL := 1) (ret := none) (by decide) rfl (Nat.le_of_ble_eq_true rfl) ?_
  intro p e s m below meth c A ls hx hb hml hr hts hown hlocks hA hP hK hD hS hl
  have hin : ∀ w ∈ u_ws RX0 TX0 12, w ∈ wsX0_format := by decide +kernel
  have hl : lv_has ls 1 [(0, .ref h0)] := hl
  refine lv_aload_n hx hb dX0_format_0 rfl (lv_at hl 0 rfl) ?_
  refine va_get (D := (dC, dI)) (ci := 0) (v := .ref q0) (C := RX0) (T := TX0) (N := 12) hx hb hts hin hown hK hP 0 rfl rfl 0 (by decide) (hts (.fieldLink RX0 9 "NestCells" "words" "[I") (by decide +kernel)) (fun _ h9 => h9) rfl dX0_format_1 ?_
  refine lv_iconst (v := (nI 0)) hx hb dX0_format_4 (by decide) ?_
  refine kv_Sv (Xr := [(h0, .inr (0, [.ref q0, .ref q1, .ref q2, .ref q3, .ref q4, .ref q5, .int (nI T), .int (nI n), .int (nI z), .int wtc, .int wia, .int off])), (q1, .inl (cA, 32, .inl ce)), (q2, .inl (cA, 88, .inl nm)), (q3, .inl (cA, 60, .inl tl)), (q4, .inl (cA, 60, .inl tc)), (q5, .inl (cA, 60, .inl tw))]) (n := 2) (c_J7_fill_53178 l dC dI cA q0 98 w (nI 0) (by omega)) hx hb hml hown hts gX0_format_J7_fill_53178 rfl ⟨rfl, rfl⟩ (by decide +kernel) rfl ⟨Nat.le_of_ble_eq_true rfl, Nat.le_of_ble_eq_true rfl⟩ hK hP hD hS hA [0] [1] [0, 2, 3, 4, 5, 6] rfl rfl rfl (by decide) (by decide) rfl (by decide) hl.1 rfl (Nat.le_of_ble_eq_true rfl) dX0_format_5 ⟨Nat.zero_le _, Nat.zero_le _⟩ (fun H locs hP hD hS => ?_)
  have hP := hP.sub (ws' := (wX0 cA h0 q0 q1 q2 q3 q4 q5 (kx_fill w (nI 0) 98) ce nm tl tc tw T n z wtc wia off)) [0, 6, 1, 2, 3, 4, 5] rfl
  have hD := hD.sub (ws' := (wX0 cA h0 q0 q1 q2 q3 q4 q5 (kx_fill w (nI 0) 98) ce nm tl tc tw T n z wtc wia off)) [0, 6, 1, 2, 3, 4, 5] (by decide) rfl
  refine lv_aload_n hx hb dX0_format_8 rfl (lv_at hl 0 rfl) ?_
  refine va_get (D := (dC, dI)) (ci := 0) (v := .ref q1) (C := RX0) (T := TX0) (N := 12) hx hb hts hin hown hK hP 0 rfl rfl 1 (by decide) (hts (.fieldLink RX0 13 "NestCells" "cells" "[I") (by decide +kernel)) (fun _ h9 => h9) rfl dX0_format_9 ?_
  refine lv_iconst (v := (nI 0)) hx hb dX0_format_12 (by decide) ?_
  refine kv_Sv (Xr := [(h0, .inr (0, [.ref q0, .ref q1, .ref q2, .ref q3, .ref q4, .ref q5, .int (nI T), .int (nI n), .int (nI z), .int wtc, .int wia, .int off])), (q0, .inl (cA, 98, .inl (kx_fill w (nI 0) 98))), (q2, .inl (cA, 88, .inl nm)), (q3, .inl (cA, 60, .inl tl)), (q4, .inl (cA, 60, .inl tc)), (q5, .inl (cA, 60, .inl tw))]) (n := 2) (c_J7_fill_53178 l dC dI cA q1 32 ce (nI 0) (by omega)) hx hb hml hown hts gX0_format_J7_fill_53178 rfl ⟨rfl, rfl⟩ (by decide +kernel) rfl ⟨Nat.le_of_ble_eq_true rfl, Nat.le_of_ble_eq_true rfl⟩ hK hP hD hS hA [0] [2] [0, 1, 3, 4, 5, 6] rfl rfl rfl (by decide) (by decide) rfl (by decide) hl.1 rfl (Nat.le_of_ble_eq_true rfl) dX0_format_13 ⟨Nat.zero_le _, Nat.zero_le _⟩ (fun H locs hP hD hS => ?_)
  have hP := hP.sub (ws' := (wX0 cA h0 q0 q1 q2 q3 q4 q5 (kx_fill w (nI 0) 98) (kx_fill ce (nI 0) 32) nm tl tc tw T n z wtc wia off)) [0, 1, 6, 2, 3, 4, 5] rfl
  have hD := hD.sub (ws' := (wX0 cA h0 q0 q1 q2 q3 q4 q5 (kx_fill w (nI 0) 98) (kx_fill ce (nI 0) 32) nm tl tc tw T n z wtc wia off)) [0, 1, 6, 2, 3, 4, 5] (by decide) rfl
  refine lv_aload_n hx hb dX0_format_16 rfl (lv_at hl 0 rfl) ?_
  refine kv_Vv (Xr := []) (n := 0) (c_X0_forgetTransactions l dC dI cA h0 q0 q1 q2 q3 q4 q5 (kx_fill w (nI 0) 98) (kx_fill ce (nI 0) 32) nm tl tc tw T n z wtc wia off  ) hx hb hml hown hts gX0_format_X0_forgetTransactions rfl ⟨rfl, rfl⟩ (by decide +kernel) rfl ⟨Nat.le_of_ble_eq_true rfl, Nat.le_of_ble_eq_true rfl⟩ hK hP hD hS hA [0] [0, 1, 2, 3, 4, 5, 6] [] rfl rfl rfl (by decide) (by decide) (q0 := 0) rfl rfl rfl (by decide) hl.1 rfl (Nat.le_of_ble_eq_true rfl) dX0_format_17 ⟨Nat.zero_le _, Nat.zero_le _⟩ (fun H locs hP hD hS => ?_)
  have hP : va_P (dC, dI) vwCl (wX0 cA h0 q0 q1 q2 q3 q4 q5 (kx_fill w (nI 0) 98) (kx_fill ce (nI 0) 32) nm tl tc tw 0 0 0 wtc wia off) H := hP
  have hD : va_D A (wX0 cA h0 q0 q1 q2 q3 q4 q5 (kx_fill w (nI 0) 98) (kx_fill ce (nI 0) 32) nm tl tc tw 0 0 0 wtc wia off) := hD
  refine lv_aload_n hx hb dX0_format_20 rfl (lv_at hl 0 rfl) ?_
  refine lv_iconst (v := (nI 0)) hx hb dX0_format_21 (by decide) ?_
  refine va_put (D := (dC, dI)) (ci := 0) (v := .int (nI 0)) (ty := .int) (C := RX0) (T := TX0) (N := 12) hx hb hts hin tyX0 tyX0_ok nmX0 hown hK hP hD hS 0 rfl rfl 9 (by decide) (hts (.fieldLink RX0 37 "NestCells" "writesTillCrash" "I") (by decide +kernel)) (fun _ h9 => h9) rfl (by decide +kernel) rfl rfl (Nat.le_of_ble_eq_true rfl) dX0_format_22 (fun H locs hP hD hS => ?_)
  have hP : va_P (dC, dI) vwCl (wX0 cA h0 q0 q1 q2 q3 q4 q5 (kx_fill w (nI 0) 98) (kx_fill ce (nI 0) 32) nm tl tc tw 0 0 0 (nI 0) wia off) H := hP
  have hD : va_D A (wX0 cA h0 q0 q1 q2 q3 q4 q5 (kx_fill w (nI 0) 98) (kx_fill ce (nI 0) 32) nm tl tc tw 0 0 0 (nI 0) wia off) := hD
  refine lv_aload_n hx hb dX0_format_25 rfl (lv_at hl 0 rfl) ?_
  refine lv_iconst (v := (nI 0)) hx hb dX0_format_26 (by decide) ?_
  refine va_put (D := (dC, dI)) (ci := 0) (v := .int (nI 0)) (ty := .int) (C := RX0) (T := TX0) (N := 12) hx hb hts hin tyX0 tyX0_ok nmX0 hown hK hP hD hS 0 rfl rfl 10 (by decide) (hts (.fieldLink RX0 41 "NestCells" "writesInAll" "I") (by decide +kernel)) (fun _ h9 => h9) rfl (by decide +kernel) rfl rfl (Nat.le_of_ble_eq_true rfl) dX0_format_27 (fun H locs hP hD hS => ?_)
  have hP : va_P (dC, dI) vwCl (wX0 cA h0 q0 q1 q2 q3 q4 q5 (kx_fill w (nI 0) 98) (kx_fill ce (nI 0) 32) nm tl tc tw 0 0 0 (nI 0) (nI 0) off) H := hP
  have hD : va_D A (wX0 cA h0 q0 q1 q2 q3 q4 q5 (kx_fill w (nI 0) 98) (kx_fill ce (nI 0) 32) nm tl tc tw 0 0 0 (nI 0) (nI 0) off) := hD
  refine lv_aload_n hx hb dX0_format_30 rfl (lv_at hl 0 rfl) ?_
  refine lv_iconst (v := (nI 0)) hx hb dX0_format_31 (by decide) ?_
  refine va_put (D := (dC, dI)) (ci := 0) (v := .int (nI 0)) (ty := .boolean) (C := RX0) (T := TX0) (N := 12) hx hb hts hin tyX0 tyX0_ok nmX0 hown hK hP hD hS 0 rfl rfl 11 (by decide) (hts (.fieldLink RX0 44 "NestCells" "off" "Z") (by decide +kernel)) (fun _ h9 => h9) rfl (by decide +kernel) rfl rfl (Nat.le_of_ble_eq_true rfl) dX0_format_32 (fun H locs hP hD hS => ?_)
  have hP : va_P (dC, dI) vwCl (wX0 cA h0 q0 q1 q2 q3 q4 q5 (kx_fill w (nI 0) 98) (kx_fill ce (nI 0) 32) nm tl tc tw 0 0 0 (nI 0) (nI 0) (nI 0)) H := hP
  have hD : va_D A (wX0 cA h0 q0 q1 q2 q3 q4 q5 (kx_fill w (nI 0) 98) (kx_fill ce (nI 0) 32) nm tl tc tw 0 0 0 (nI 0) (nI 0) (nI 0)) := hD
  exact kMv_ret hx hb hr hlocks hP hK hD hS dX0_format_35 rfl
set_option maxHeartbeats 4000000 in
set_option maxRecDepth 100000 in
/-- NestCells.begin  -/
theorem c_X0_begin (l : Launch) (dC : Nat → ClassId) (dI : Nat → Nat → Nat) (cA : ClassId) (h0 q0 q1 q2 q3 q4 q5 : Nat) (w ce nm tl tc tw : Nat → Int32) (T n z : Nat) (wtc wia off : Int32)  (ho : off = 0) (hT : T < 8) (hn : n < 88) : kMi l yX0_begin wsX0_begin ({ frames := 1, cells := 0, slots := 0, locals := 21 }) dC dI [(cA, .int)] (wX0 cA h0 q0 q1 q2 q3 q4 q5 w ce nm tl tc tw T n z wtc wia off) [.ref h0] (nI (T + 1)) (wX0 cA h0 q0 q1 q2 q3 q4 q5 w ce (upd nm n (-1)) tl tc tw (T + 1) (n + 1) z wtc wia off) := by
  refine kMi_of (cc := cX0_begin) (maxL := 1) (ret := (some .int)) (by decide) rfl (Nat.le_of_ble_eq_true rfl) ?_
  intro p e s m below meth c A ls hx hb hml hr hts hown hlocks hA hP hK hD hS hl
  have hin : ∀ w ∈ u_ws RX0 TX0 12, w ∈ wsX0_begin := by decide +kernel
  have hl : lv_has ls 1 [(0, .ref h0)] := hl
  refine lv_aload_n hx hb dX0_begin_0 rfl (lv_at hl 0 rfl) ?_
  refine kv_Vv (Xr := []) (n := 0) (c_X0_needPower l dC dI cA h0 q0 q1 q2 q3 q4 q5 w ce nm tl tc tw T n z wtc wia off  ho) hx hb hml hown hts gX0_begin_X0_needPower rfl ⟨rfl, rfl⟩ (by decide +kernel) rfl ⟨Nat.le_of_ble_eq_true rfl, Nat.le_of_ble_eq_true rfl⟩ hK hP hD hS hA [0] [0, 1, 2, 3, 4, 5, 6] [] rfl rfl rfl (by decide) (by decide) (q0 := 0) rfl rfl rfl (by decide) hl.1 rfl (Nat.le_of_ble_eq_true rfl) dX0_begin_1 ⟨Nat.zero_le _, Nat.zero_le _⟩ (fun H locs hP hD hS => ?_)
  have hP : va_P (dC, dI) vwCl (wX0 cA h0 q0 q1 q2 q3 q4 q5 w ce nm tl tc tw T n z wtc wia off) H := hP
  have hD : va_D A (wX0 cA h0 q0 q1 q2 q3 q4 q5 w ce nm tl tc tw T n z wtc wia off) := hD
  refine lv_aload_n hx hb dX0_begin_4 rfl (lv_at hl 0 rfl) ?_
  refine va_get (D := (dC, dI)) (ci := 0) (v := .int (nI T)) (C := RX0) (T := TX0) (N := 12) hx hb hts hin hown hK hP 0 rfl rfl 6 (by decide) (hts (.fieldLink RX0 51 "NestCells" "transactions" "I") (by decide +kernel)) (fun _ h9 => h9) rfl dX0_begin_5 ?_
  refine lv_bipush (v := (nI 8)) hx hb dX0_begin_8 (by decide) ?_
  refine kv_ne (tgt := 23) hx hb (by omega) (by omega) dX0_begin_10 (by decide) (fun h10_0 => ?_) (fun h10_0 => absurd h10_0 (by omega))
  refine lv_aload_n hx hb dX0_begin_23 rfl (lv_at hl 0 rfl) ?_
  refine lv_iconst (v := (-1)) hx hb dX0_begin_24 (by decide) ?_
  refine kv_Vv (Xr := []) (n := 1) (c_X0_openLevel l dC dI cA h0 q0 q1 q2 q3 q4 q5 w ce nm tl tc tw T n z wtc wia off (-1) (by omega)) hx hb hml hown hts gX0_begin_X0_openLevel rfl ⟨rfl, rfl⟩ (by decide +kernel) rfl ⟨Nat.le_of_ble_eq_true rfl, Nat.le_of_ble_eq_true rfl⟩ hK hP hD hS hA [0] [0, 1, 2, 3, 4, 5, 6] [] rfl rfl rfl (by decide) (by decide) (q0 := 0) rfl rfl rfl (by decide) hl.1 rfl (Nat.le_of_ble_eq_true rfl) dX0_begin_25 ⟨Nat.zero_le _, Nat.zero_le _⟩ (fun H locs hP hD hS => ?_)
  have hP : va_P (dC, dI) vwCl (wX0 cA h0 q0 q1 q2 q3 q4 q5 w ce (upd nm n (-1)) tl tc tw T (n + 1) z wtc wia off) H := hP
  have hD : va_D A (wX0 cA h0 q0 q1 q2 q3 q4 q5 w ce (upd nm n (-1)) tl tc tw T (n + 1) z wtc wia off) := hD
  refine lv_aload_n hx hb dX0_begin_28 rfl (lv_at hl 0 rfl) ?_
  refine lv_dup hx hb dX0_begin_29 rfl ?_
  refine va_get (D := (dC, dI)) (ci := 0) (v := .int (nI T)) (C := RX0) (T := TX0) (N := 12) hx hb hts hin hown hK hP 0 rfl rfl 6 (by decide) (hts (.fieldLink RX0 51 "NestCells" "transactions" "I") (by decide +kernel)) (fun _ h9 => h9) rfl dX0_begin_30 ?_
  refine lv_iconst (v := (nI 1)) hx hb dX0_begin_33 (by decide) ?_
  refine kv_addE (d := T + 1) hx hb (by omega) dX0_begin_34 ?_
  refine va_put (D := (dC, dI)) (ci := 0) (v := .int (nI (T + 1))) (ty := .int) (C := RX0) (T := TX0) (N := 12) hx hb hts hin tyX0 tyX0_ok nmX0 hown hK hP hD hS 0 rfl rfl 6 (by decide) (hts (.fieldLink RX0 51 "NestCells" "transactions" "I") (by decide +kernel)) (fun _ h9 => h9) rfl (by decide +kernel) rfl rfl (Nat.le_of_ble_eq_true rfl) dX0_begin_35 (fun H locs hP hD hS => ?_)
  have hP : va_P (dC, dI) vwCl (wX0 cA h0 q0 q1 q2 q3 q4 q5 w ce (upd nm n (-1)) tl tc tw (T + 1) (n + 1) z wtc wia off) H := hP
  have hD : va_D A (wX0 cA h0 q0 q1 q2 q3 q4 q5 w ce (upd nm n (-1)) tl tc tw (T + 1) (n + 1) z wtc wia off) := hD
  refine lv_aload_n hx hb dX0_begin_38 rfl (lv_at hl 0 rfl) ?_
  refine va_get (D := (dC, dI)) (ci := 0) (v := .int (nI (T + 1))) (C := RX0) (T := TX0) (N := 12) hx hb hts hin hown hK hP 0 rfl rfl 6 (by decide) (hts (.fieldLink RX0 51 "NestCells" "transactions" "I") (by decide +kernel)) (fun _ h9 => h9) rfl dX0_begin_39 ?_
  exact kMi_ret hx hb hr hlocks hP hK hD hS dX0_begin_42 rfl rfl
set_option maxHeartbeats 4000000 in
set_option maxRecDepth 100000 in
/-- NestCells.write_t  -/
theorem c_X0_write_t (l : Launch) (dC : Nat → ClassId) (dI : Nat → Nat → Nat) (cA : ClassId) (h0 q0 q1 q2 q3 q4 q5 : Nat) (w ce nm tl tc tw : Nat → Int32) (T n z : Nat) (wtc wia off : Int32) (cell : Nat) (v : Int32) (hc : cell < 32) (ho : off = 0) (hT : 0 < T) (hT8 : T ≤ 8) (hz : z ≤ 60) (hn1 : 1 ≤ n) (hn : n ≤ 88) (hh : ¬ kx_holds (kx_tc tl tc (nI (n - 1)) z) (nI cell) = 0) : kMi l yX0_write wsX0_write ({ frames := 2, cells := 0, slots := 0, locals := 41 }) dC dI [(cA, .int)] (wX0 cA h0 q0 q1 q2 q3 q4 q5 w ce nm tl tc tw T n z wtc wia off) [.ref h0, .int (nI cell), .int v] (ce cell) (wX0 cA h0 q0 q1 q2 q3 q4 q5 w (upd ce cell v) nm tl tc tw T n z wtc wia off) := by
  refine kMi_of (cc := cX0_write) (maxL := 5) (ret := (some .int)) (by decide) rfl (Nat.le_of_ble_eq_true rfl) ?_
  intro p e s m below meth c A ls hx hb hml hr hts hown hlocks hA hP hK hD hS hl
  have hin : ∀ w ∈ u_ws RX0 TX0 12, w ∈ wsX0_write := by decide +kernel
  have hl : lv_has ls 5 [(0, .ref h0), (1, .int (nI cell)), (2, .int v)] := hl
  refine lv_aload_n hx hb dX0_write_0 rfl (lv_at hl 0 rfl) ?_
  refine lv_iload_n hx hb dX0_write_1 rfl (lv_at hl 1 rfl) ?_
  refine kv_Vv (Xr := []) (n := 1) (c_X0_needCell l dC dI cA h0 q0 q1 q2 q3 q4 q5 w ce nm tl tc tw T n z wtc wia off cell (by omega)) hx hb hml hown hts gX0_write_X0_needCell rfl ⟨rfl, rfl⟩ (by decide +kernel) rfl ⟨Nat.le_of_ble_eq_true rfl, Nat.le_of_ble_eq_true rfl⟩ hK hP hD hS hA [0] [0, 1, 2, 3, 4, 5, 6] [] rfl rfl rfl (by decide) (by decide) (q0 := 0) rfl rfl rfl (by decide) hl.1 rfl (Nat.le_of_ble_eq_true rfl) dX0_write_2 ⟨Nat.zero_le _, Nat.zero_le _⟩ (fun H locs hP hD hS => ?_)
  have hP : va_P (dC, dI) vwCl (wX0 cA h0 q0 q1 q2 q3 q4 q5 w ce nm tl tc tw T n z wtc wia off) H := hP
  have hD : va_D A (wX0 cA h0 q0 q1 q2 q3 q4 q5 w ce nm tl tc tw T n z wtc wia off) := hD
  refine lv_aload_n hx hb dX0_write_5 rfl (lv_at hl 0 rfl) ?_
  refine kv_Vv (Xr := []) (n := 0) (c_X0_needTransaction l dC dI cA h0 q0 q1 q2 q3 q4 q5 w ce nm tl tc tw T n z wtc wia off  ho hT hT8) hx hb hml hown hts gX0_write_X0_needTransaction rfl ⟨rfl, rfl⟩ (by decide +kernel) rfl ⟨Nat.le_of_ble_eq_true rfl, Nat.le_of_ble_eq_true rfl⟩ hK hP hD hS hA [0] [0, 1, 2, 3, 4, 5, 6] [] rfl rfl rfl (by decide) (by decide) (q0 := 0) rfl rfl rfl (by decide) hl.1 rfl (Nat.le_of_ble_eq_true rfl) dX0_write_6 ⟨Nat.zero_le _, Nat.zero_le _⟩ (fun H locs hP hD hS => ?_)
  have hP : va_P (dC, dI) vwCl (wX0 cA h0 q0 q1 q2 q3 q4 q5 w ce nm tl tc tw T n z wtc wia off) H := hP
  have hD : va_D A (wX0 cA h0 q0 q1 q2 q3 q4 q5 w ce nm tl tc tw T n z wtc wia off) := hD
  refine lv_aload_n hx hb dX0_write_9 rfl (lv_at hl 0 rfl) ?_
  refine va_get (D := (dC, dI)) (ci := 0) (v := .int (nI n)) (C := RX0) (T := TX0) (N := 12) hx hb hts hin hown hK hP 0 rfl rfl 7 (by decide) (hts (.fieldLink RX0 71 "NestCells" "levels" "I") (by decide +kernel)) (fun _ h9 => h9) rfl dX0_write_10 ?_
  refine lv_iconst (v := (nI 1)) hx hb dX0_write_13 (by decide) ?_
  refine kv_subE (d := n - 1) hx hb (by omega) dX0_write_14 ?_
  refine lv_istore_n (lv' := [(3, .int (nI (n - 1))), (0, .ref h0), (1, .int (nI cell)), (2, .int v)]) hx hb dX0_write_15 rfl hl (by decide) rfl (fun ls hl => ?_)
  refine lv_aload_n hx hb dX0_write_16 rfl (lv_at hl 1 rfl) ?_
  refine lv_iload_n hx hb dX0_write_17 rfl (lv_at hl 0 rfl) ?_
  refine kv_Vi (Xr := []) (n := 1) (c_X0_tracedCells l dC dI cA h0 q0 q1 q2 q3 q4 q5 w ce nm tl tc tw T n z wtc wia off (nI (n - 1)) (by omega)) hx hb hml hown hts gX0_write_X0_tracedCells rfl ⟨rfl, rfl⟩ (by decide +kernel) rfl ⟨Nat.le_of_ble_eq_true rfl, Nat.le_of_ble_eq_true rfl⟩ hK hP hD hS hA [0] [0, 1, 2, 3, 4, 5, 6] [] rfl rfl rfl (by decide) (by decide) (q0 := 0) rfl rfl rfl (by decide) hl.1 rfl (Nat.le_of_ble_eq_true rfl) dX0_write_18 ⟨Nat.zero_le _, Nat.zero_le _⟩ (fun H locs hP hD hS => ?_)
  have hP : va_P (dC, dI) vwCl (wX0 cA h0 q0 q1 q2 q3 q4 q5 w ce nm tl tc tw T n z wtc wia off) H := hP
  have hD : va_D A (wX0 cA h0 q0 q1 q2 q3 q4 q5 w ce nm tl tc tw T n z wtc wia off) := hD
  refine lv_iload_n hx hb dX0_write_21 rfl (lv_at hl 2 rfl) ?_
  refine kv_Si (Xr := wX0 cA h0 q0 q1 q2 q3 q4 q5 w ce nm tl tc tw T n z wtc wia off) (n := 2) (c_X0_holds l dC dI   (kx_tc tl tc (nI (n - 1)) z) (nI cell) ) hx hb hml hown hts gX0_write_X0_holds rfl ⟨rfl, rfl⟩ (by decide +kernel) rfl ⟨Nat.le_of_ble_eq_true rfl, Nat.le_of_ble_eq_true rfl⟩ hK hP hD hS hA [] [] [0, 1, 2, 3, 4, 5, 6] rfl rfl rfl (by decide) (by decide) rfl (by decide) hl.1 rfl (Nat.le_of_ble_eq_true rfl) dX0_write_22 ⟨Nat.zero_le _, Nat.zero_le _⟩ (fun H locs hP hD hS => ?_)
  have hP : va_P (dC, dI) vwCl (wX0 cA h0 q0 q1 q2 q3 q4 q5 w ce nm tl tc tw T n z wtc wia off) H := hP
  have hD : va_D A (wX0 cA h0 q0 q1 q2 q3 q4 q5 w ce nm tl tc tw T n z wtc wia off) := hD
  refine lv_if_ne (tgt := 53) hx hb dX0_write_25 (by decide) (fun h25_0 => ?_) (fun h25_0 => absurd h25_0 hh)
  refine lv_aload_n hx hb dX0_write_53 rfl (lv_at hl 1 rfl) ?_
  refine va_get (D := (dC, dI)) (ci := 0) (v := .ref q1) (C := RX0) (T := TX0) (N := 12) hx hb hts hin hown hK hP 0 rfl rfl 1 (by decide) (hts (.fieldLink RX0 13 "NestCells" "cells" "[I") (by decide +kernel)) (fun _ h9 => h9) rfl dX0_write_54 ?_
  refine lv_iload_n hx hb dX0_write_57 rfl (lv_at hl 2 rfl) ?_
  refine kv_iald hx hb hK hP 2 0 rfl rfl (by omega) (by omega) dX0_write_58 ?_
  refine lv_istore (lv' := [(4, .int (ce cell)), (3, .int (nI (n - 1))), (0, .ref h0), (1, .int (nI cell)), (2, .int v)]) hx hb dX0_write_59 hl (by decide) rfl (fun ls hl => ?_)
  refine lv_aload_n hx hb dX0_write_61 rfl (lv_at hl 2 rfl) ?_
  refine va_get (D := (dC, dI)) (ci := 0) (v := .ref q1) (C := RX0) (T := TX0) (N := 12) hx hb hts hin hown hK hP 0 rfl rfl 1 (by decide) (hts (.fieldLink RX0 13 "NestCells" "cells" "[I") (by decide +kernel)) (fun _ h9 => h9) rfl dX0_write_62 ?_
  refine lv_iload_n hx hb dX0_write_65 rfl (lv_at hl 3 rfl) ?_
  refine lv_iload_n hx hb dX0_write_66 rfl (lv_at hl 4 rfl) ?_
  refine kv_iast hx hb hK hP hD hS 2 0 rfl rfl (by omega) (by omega) dX0_write_67 (fun H locs hP hD hS => ?_)
  have hP : va_P (dC, dI) vwCl (wX0 cA h0 q0 q1 q2 q3 q4 q5 w (upd ce cell v) nm tl tc tw T n z wtc wia off) H := hP
  have hD : va_D A (wX0 cA h0 q0 q1 q2 q3 q4 q5 w (upd ce cell v) nm tl tc tw T n z wtc wia off) := hD
  refine lv_iload hx hb dX0_write_68 (lv_at hl 0 rfl) ?_
  exact kMi_ret hx hb hr hlocks hP hK hD hS dX0_write_70 rfl rfl
set_option maxHeartbeats 4000000 in
set_option maxRecDepth 100000 in
/-- NestCells.write_u  -/
theorem c_X0_write_u (l : Launch) (dC : Nat → ClassId) (dI : Nat → Nat → Nat) (cA : ClassId) (h0 q0 q1 q2 q3 q4 q5 : Nat) (w ce nm tl tc tw : Nat → Int32) (T n z : Nat) (wtc wia off : Int32) (cell : Nat) (v : Int32) (hc : cell < 32) (ho : off = 0) (hT : 0 < T) (hT8 : T ≤ 8) (hz : z ≤ 60) (hn1 : 1 ≤ n) (hn : n ≤ 88) (hh : kx_holds (kx_tc tl tc (nI (n - 1)) z) (nI cell) = 0) (hz2 : z < 60) : kMi l yX0_write wsX0_write ({ frames := 2, cells := 0, slots := 0, locals := 41 }) dC dI [(cA, .int)] (wX0 cA h0 q0 q1 q2 q3 q4 q5 w ce nm tl tc tw T n z wtc wia off) [.ref h0, .int (nI cell), .int v] (ce cell) (wX0 cA h0 q0 q1 q2 q3 q4 q5 w (upd ce cell v) nm (upd tl z (nI (n - 1))) (upd tc z (nI cell)) (upd tw z (ce cell)) T n (z + 1) wtc wia off) := by
  refine kMi_of (cc := cX0_write) (maxL := 5) (ret := (some .int)) (by decide) rfl (Nat.le_of_ble_eq_true rfl) ?_
  intro p e s m below meth c A ls hx hb hml hr hts hown hlocks hA hP hK hD hS hl
  have hin : ∀ w ∈ u_ws RX0 TX0 12, w ∈ wsX0_write := by decide +kernel
  have hl : lv_has ls 5 [(0, .ref h0), (1, .int (nI cell)), (2, .int v)] := hl
  refine lv_aload_n hx hb dX0_write_0 rfl (lv_at hl 0 rfl) ?_
  refine lv_iload_n hx hb dX0_write_1 rfl (lv_at hl 1 rfl) ?_
  refine kv_Vv (Xr := []) (n := 1) (c_X0_needCell l dC dI cA h0 q0 q1 q2 q3 q4 q5 w ce nm tl tc tw T n z wtc wia off cell (by omega)) hx hb hml hown hts gX0_write_X0_needCell rfl ⟨rfl, rfl⟩ (by decide +kernel) rfl ⟨Nat.le_of_ble_eq_true rfl, Nat.le_of_ble_eq_true rfl⟩ hK hP hD hS hA [0] [0, 1, 2, 3, 4, 5, 6] [] rfl rfl rfl (by decide) (by decide) (q0 := 0) rfl rfl rfl (by decide) hl.1 rfl (Nat.le_of_ble_eq_true rfl) dX0_write_2 ⟨Nat.zero_le _, Nat.zero_le _⟩ (fun H locs hP hD hS => ?_)
  have hP : va_P (dC, dI) vwCl (wX0 cA h0 q0 q1 q2 q3 q4 q5 w ce nm tl tc tw T n z wtc wia off) H := hP
  have hD : va_D A (wX0 cA h0 q0 q1 q2 q3 q4 q5 w ce nm tl tc tw T n z wtc wia off) := hD
  refine lv_aload_n hx hb dX0_write_5 rfl (lv_at hl 0 rfl) ?_
  refine kv_Vv (Xr := []) (n := 0) (c_X0_needTransaction l dC dI cA h0 q0 q1 q2 q3 q4 q5 w ce nm tl tc tw T n z wtc wia off  ho hT hT8) hx hb hml hown hts gX0_write_X0_needTransaction rfl ⟨rfl, rfl⟩ (by decide +kernel) rfl ⟨Nat.le_of_ble_eq_true rfl, Nat.le_of_ble_eq_true rfl⟩ hK hP hD hS hA [0] [0, 1, 2, 3, 4, 5, 6] [] rfl rfl rfl (by decide) (by decide) (q0 := 0) rfl rfl rfl (by decide) hl.1 rfl (Nat.le_of_ble_eq_true rfl) dX0_write_6 ⟨Nat.zero_le _, Nat.zero_le _⟩ (fun H locs hP hD hS => ?_)
  have hP : va_P (dC, dI) vwCl (wX0 cA h0 q0 q1 q2 q3 q4 q5 w ce nm tl tc tw T n z wtc wia off) H := hP
  have hD : va_D A (wX0 cA h0 q0 q1 q2 q3 q4 q5 w ce nm tl tc tw T n z wtc wia off) := hD
  refine lv_aload_n hx hb dX0_write_9 rfl (lv_at hl 0 rfl) ?_
  refine va_get (D := (dC, dI)) (ci := 0) (v := .int (nI n)) (C := RX0) (T := TX0) (N := 12) hx hb hts hin hown hK hP 0 rfl rfl 7 (by decide) (hts (.fieldLink RX0 71 "NestCells" "levels" "I") (by decide +kernel)) (fun _ h9 => h9) rfl dX0_write_10 ?_
  refine lv_iconst (v := (nI 1)) hx hb dX0_write_13 (by decide) ?_
  refine kv_subE (d := n - 1) hx hb (by omega) dX0_write_14 ?_
  refine lv_istore_n (lv' := [(3, .int (nI (n - 1))), (0, .ref h0), (1, .int (nI cell)), (2, .int v)]) hx hb dX0_write_15 rfl hl (by decide) rfl (fun ls hl => ?_)
  refine lv_aload_n hx hb dX0_write_16 rfl (lv_at hl 1 rfl) ?_
  refine lv_iload_n hx hb dX0_write_17 rfl (lv_at hl 0 rfl) ?_
  refine kv_Vi (Xr := []) (n := 1) (c_X0_tracedCells l dC dI cA h0 q0 q1 q2 q3 q4 q5 w ce nm tl tc tw T n z wtc wia off (nI (n - 1)) (by omega)) hx hb hml hown hts gX0_write_X0_tracedCells rfl ⟨rfl, rfl⟩ (by decide +kernel) rfl ⟨Nat.le_of_ble_eq_true rfl, Nat.le_of_ble_eq_true rfl⟩ hK hP hD hS hA [0] [0, 1, 2, 3, 4, 5, 6] [] rfl rfl rfl (by decide) (by decide) (q0 := 0) rfl rfl rfl (by decide) hl.1 rfl (Nat.le_of_ble_eq_true rfl) dX0_write_18 ⟨Nat.zero_le _, Nat.zero_le _⟩ (fun H locs hP hD hS => ?_)
  have hP : va_P (dC, dI) vwCl (wX0 cA h0 q0 q1 q2 q3 q4 q5 w ce nm tl tc tw T n z wtc wia off) H := hP
  have hD : va_D A (wX0 cA h0 q0 q1 q2 q3 q4 q5 w ce nm tl tc tw T n z wtc wia off) := hD
  refine lv_iload_n hx hb dX0_write_21 rfl (lv_at hl 2 rfl) ?_
  refine kv_Si (Xr := wX0 cA h0 q0 q1 q2 q3 q4 q5 w ce nm tl tc tw T n z wtc wia off) (n := 2) (c_X0_holds l dC dI   (kx_tc tl tc (nI (n - 1)) z) (nI cell) ) hx hb hml hown hts gX0_write_X0_holds rfl ⟨rfl, rfl⟩ (by decide +kernel) rfl ⟨Nat.le_of_ble_eq_true rfl, Nat.le_of_ble_eq_true rfl⟩ hK hP hD hS hA [] [] [0, 1, 2, 3, 4, 5, 6] rfl rfl rfl (by decide) (by decide) rfl (by decide) hl.1 rfl (Nat.le_of_ble_eq_true rfl) dX0_write_22 ⟨Nat.zero_le _, Nat.zero_le _⟩ (fun H locs hP hD hS => ?_)
  have hP : va_P (dC, dI) vwCl (wX0 cA h0 q0 q1 q2 q3 q4 q5 w ce nm tl tc tw T n z wtc wia off) H := hP
  have hD : va_D A (wX0 cA h0 q0 q1 q2 q3 q4 q5 w ce nm tl tc tw T n z wtc wia off) := hD
  refine lv_if_ne (tgt := 53) hx hb dX0_write_25 (by decide) (fun h25_0 => absurd h25_0 (fun q => q hh)) (fun h25_0 => ?_)
  refine lv_aload_n hx hb dX0_write_28 rfl (lv_at hl 1 rfl) ?_
  refine va_get (D := (dC, dI)) (ci := 0) (v := .int (nI z)) (C := RX0) (T := TX0) (N := 12) hx hb hts hin hown hK hP 0 rfl rfl 8 (by decide) (hts (.fieldLink RX0 82 "NestCells" "traces" "I") (by decide +kernel)) (fun _ h9 => h9) rfl dX0_write_29 ?_
  refine lv_bipush (v := (nI 60)) hx hb dX0_write_32 (by decide) ?_
  refine kv_ne (tgt := 47) hx hb (by omega) (by omega) dX0_write_34 (by decide) (fun h34_0 => ?_) (fun h34_0 => absurd h34_0 (by omega))
  refine lv_aload_n hx hb dX0_write_47 rfl (lv_at hl 1 rfl) ?_
  refine lv_iload_n hx hb dX0_write_48 rfl (lv_at hl 0 rfl) ?_
  refine lv_iload_n hx hb dX0_write_49 rfl (lv_at hl 2 rfl) ?_
  refine kv_Vv (Xr := []) (n := 2) (c_X0_leaveTrace l dC dI cA h0 q0 q1 q2 q3 q4 q5 w ce nm tl tc tw T n z wtc wia off (n - 1) cell (by omega) (by omega)) hx hb hml hown hts gX0_write_X0_leaveTrace rfl ⟨rfl, rfl⟩ (by decide +kernel) rfl ⟨Nat.le_of_ble_eq_true rfl, Nat.le_of_ble_eq_true rfl⟩ hK hP hD hS hA [0] [0, 1, 2, 3, 4, 5, 6] [] rfl rfl rfl (by decide) (by decide) (q0 := 0) rfl rfl rfl (by decide) hl.1 rfl (Nat.le_of_ble_eq_true rfl) dX0_write_50 ⟨Nat.zero_le _, Nat.zero_le _⟩ (fun H locs hP hD hS => ?_)
  have hP : va_P (dC, dI) vwCl (wX0 cA h0 q0 q1 q2 q3 q4 q5 w ce nm (upd tl z (nI (n - 1))) (upd tc z (nI cell)) (upd tw z (ce cell)) T n (z + 1) wtc wia off) H := hP
  have hD : va_D A (wX0 cA h0 q0 q1 q2 q3 q4 q5 w ce nm (upd tl z (nI (n - 1))) (upd tc z (nI cell)) (upd tw z (ce cell)) T n (z + 1) wtc wia off) := hD
  refine lv_aload_n hx hb dX0_write_53 rfl (lv_at hl 1 rfl) ?_
  refine va_get (D := (dC, dI)) (ci := 0) (v := .ref q1) (C := RX0) (T := TX0) (N := 12) hx hb hts hin hown hK hP 0 rfl rfl 1 (by decide) (hts (.fieldLink RX0 13 "NestCells" "cells" "[I") (by decide +kernel)) (fun _ h9 => h9) rfl dX0_write_54 ?_
  refine lv_iload_n hx hb dX0_write_57 rfl (lv_at hl 2 rfl) ?_
  refine kv_iald hx hb hK hP 2 0 rfl rfl (by omega) (by omega) dX0_write_58 ?_
  refine lv_istore (lv' := [(4, .int (ce cell)), (3, .int (nI (n - 1))), (0, .ref h0), (1, .int (nI cell)), (2, .int v)]) hx hb dX0_write_59 hl (by decide) rfl (fun ls hl => ?_)
  refine lv_aload_n hx hb dX0_write_61 rfl (lv_at hl 2 rfl) ?_
  refine va_get (D := (dC, dI)) (ci := 0) (v := .ref q1) (C := RX0) (T := TX0) (N := 12) hx hb hts hin hown hK hP 0 rfl rfl 1 (by decide) (hts (.fieldLink RX0 13 "NestCells" "cells" "[I") (by decide +kernel)) (fun _ h9 => h9) rfl dX0_write_62 ?_
  refine lv_iload_n hx hb dX0_write_65 rfl (lv_at hl 3 rfl) ?_
  refine lv_iload_n hx hb dX0_write_66 rfl (lv_at hl 4 rfl) ?_
  refine kv_iast hx hb hK hP hD hS 2 0 rfl rfl (by omega) (by omega) dX0_write_67 (fun H locs hP hD hS => ?_)
  have hP : va_P (dC, dI) vwCl (wX0 cA h0 q0 q1 q2 q3 q4 q5 w (upd ce cell v) nm (upd tl z (nI (n - 1))) (upd tc z (nI cell)) (upd tw z (ce cell)) T n (z + 1) wtc wia off) H := hP
  have hD : va_D A (wX0 cA h0 q0 q1 q2 q3 q4 q5 w (upd ce cell v) nm (upd tl z (nI (n - 1))) (upd tc z (nI cell)) (upd tw z (ce cell)) T n (z + 1) wtc wia off) := hD
  refine lv_iload hx hb dX0_write_68 (lv_at hl 0 rfl) ?_
  exact kMi_ret hx hb hr hlocks hP hK hD hS dX0_write_70 rfl rfl
set_option maxHeartbeats 4000000 in
set_option maxRecDepth 100000 in
/-- NestCells.read  -/
theorem c_X0_read (l : Launch) (dC : Nat → ClassId) (dI : Nat → Nat → Nat) (cA : ClassId) (h0 q0 q1 q2 q3 q4 q5 : Nat) (w ce nm tl tc tw : Nat → Int32) (T n z : Nat) (wtc wia off : Int32) (cell : Nat) (hc : cell < 32) (ho : off = 0) : kMi l yX0_read wsX0_read ({ frames := 2, cells := 0, slots := 0, locals := 41 }) dC dI [(cA, .int)] (wX0 cA h0 q0 q1 q2 q3 q4 q5 w ce nm tl tc tw T n z wtc wia off) [.ref h0, .int (nI cell)] (ce cell) (wX0 cA h0 q0 q1 q2 q3 q4 q5 w ce nm tl tc tw T n z wtc wia off) := by
  refine kMi_of (cc := cX0_read) (maxL := 2) (ret := (some .int)) (by decide) rfl (Nat.le_of_ble_eq_true rfl) ?_
  intro p e s m below meth c A ls hx hb hml hr hts hown hlocks hA hP hK hD hS hl
  have hin : ∀ w ∈ u_ws RX0 TX0 12, w ∈ wsX0_read := by decide +kernel
  have hl : lv_has ls 2 [(0, .ref h0), (1, .int (nI cell))] := hl
  refine lv_aload_n hx hb dX0_read_0 rfl (lv_at hl 0 rfl) ?_
  refine lv_iload_n hx hb dX0_read_1 rfl (lv_at hl 1 rfl) ?_
  refine kv_Vv (Xr := []) (n := 1) (c_X0_needCell l dC dI cA h0 q0 q1 q2 q3 q4 q5 w ce nm tl tc tw T n z wtc wia off cell (by omega)) hx hb hml hown hts gX0_read_X0_needCell rfl ⟨rfl, rfl⟩ (by decide +kernel) rfl ⟨Nat.le_of_ble_eq_true rfl, Nat.le_of_ble_eq_true rfl⟩ hK hP hD hS hA [0] [0, 1, 2, 3, 4, 5, 6] [] rfl rfl rfl (by decide) (by decide) (q0 := 0) rfl rfl rfl (by decide) hl.1 rfl (Nat.le_of_ble_eq_true rfl) dX0_read_2 ⟨Nat.zero_le _, Nat.zero_le _⟩ (fun H locs hP hD hS => ?_)
  have hP : va_P (dC, dI) vwCl (wX0 cA h0 q0 q1 q2 q3 q4 q5 w ce nm tl tc tw T n z wtc wia off) H := hP
  have hD : va_D A (wX0 cA h0 q0 q1 q2 q3 q4 q5 w ce nm tl tc tw T n z wtc wia off) := hD
  refine lv_aload_n hx hb dX0_read_5 rfl (lv_at hl 0 rfl) ?_
  refine kv_Vv (Xr := []) (n := 0) (c_X0_needPower l dC dI cA h0 q0 q1 q2 q3 q4 q5 w ce nm tl tc tw T n z wtc wia off  ho) hx hb hml hown hts gX0_read_X0_needPower rfl ⟨rfl, rfl⟩ (by decide +kernel) rfl ⟨Nat.le_of_ble_eq_true rfl, Nat.le_of_ble_eq_true rfl⟩ hK hP hD hS hA [0] [0, 1, 2, 3, 4, 5, 6] [] rfl rfl rfl (by decide) (by decide) (q0 := 0) rfl rfl rfl (by decide) hl.1 rfl (Nat.le_of_ble_eq_true rfl) dX0_read_6 ⟨Nat.zero_le _, Nat.zero_le _⟩ (fun H locs hP hD hS => ?_)
  have hP : va_P (dC, dI) vwCl (wX0 cA h0 q0 q1 q2 q3 q4 q5 w ce nm tl tc tw T n z wtc wia off) H := hP
  have hD : va_D A (wX0 cA h0 q0 q1 q2 q3 q4 q5 w ce nm tl tc tw T n z wtc wia off) := hD
  refine lv_aload_n hx hb dX0_read_9 rfl (lv_at hl 0 rfl) ?_
  refine va_get (D := (dC, dI)) (ci := 0) (v := .ref q1) (C := RX0) (T := TX0) (N := 12) hx hb hts hin hown hK hP 0 rfl rfl 1 (by decide) (hts (.fieldLink RX0 13 "NestCells" "cells" "[I") (by decide +kernel)) (fun _ h9 => h9) rfl dX0_read_10 ?_
  refine lv_iload_n hx hb dX0_read_13 rfl (lv_at hl 1 rfl) ?_
  refine kv_iald hx hb hK hP 2 0 rfl rfl (by omega) (by omega) dX0_read_14 ?_
  exact kMi_ret hx hb hr hlocks hP hK hD hS dX0_read_15 rfl rfl
set_option maxHeartbeats 4000000 in
set_option maxRecDepth 100000 in
/-- NestCells.commit_i  -/
theorem c_X0_commit_i (l : Launch) (dC : Nat → ClassId) (dI : Nat → Nat → Nat) (cA : ClassId) (h0 q0 q1 q2 q3 q4 q5 : Nat) (w ce nm tl tc tw : Nat → Int32) (T n z : Nat) (wtc wia off : Int32)  (ho : off = 0) (hT8 : T ≤ 8) (hz : z ≤ 60) (hn : n ≤ 88) (hj : 1 ≤ kx_inn nm n) (hT : 2 ≤ T) (hj2 : 2 ≤ kx_inn nm n) : kMi l yX0_commit wsX0_commit ({ frames := 2, cells := 0, slots := 0, locals := 47 }) dC dI [(cA, .int)] (wX0 cA h0 q0 q1 q2 q3 q4 q5 w ce nm tl tc tw T n z wtc wia off) [.ref h0] (nI (T - 1)) (wX0 cA h0 q0 q1 q2 q3 q4 q5 w ce ((kx_fd (kx_cm (kx_inn nm n) n (nm, tl, tc, tw, n, z)) (kx_inn nm n - 1)).1) ((kx_fd (kx_cm (kx_inn nm n) n (nm, tl, tc, tw, n, z)) (kx_inn nm n - 1)).2.1) ((kx_fd (kx_cm (kx_inn nm n) n (nm, tl, tc, tw, n, z)) (kx_inn nm n - 1)).2.2.1) ((kx_fd (kx_cm (kx_inn nm n) n (nm, tl, tc, tw, n, z)) (kx_inn nm n - 1)).2.2.2.1) (T - 1) ((kx_fd (kx_cm (kx_inn nm n) n (nm, tl, tc, tw, n, z)) (kx_inn nm n - 1)).2.2.2.2.1) ((kx_fd (kx_cm (kx_inn nm n) n (nm, tl, tc, tw, n, z)) (kx_inn nm n - 1)).2.2.2.2.2) wtc wia off) := by
  refine kMi_of (cc := cX0_commit) (maxL := 3) (ret := (some .int)) (by decide) rfl (Nat.le_of_ble_eq_true rfl) ?_
  intro p e s m below meth c A ls hx hb hml hr hts hown hlocks hA hP hK hD hS hl
  have hin : ∀ w ∈ u_ws RX0 TX0 12, w ∈ wsX0_commit := by decide +kernel
  have hl : lv_has ls 3 [(0, .ref h0)] := hl
  have hjn := kx_inn_le nm n
  refine lv_aload_n hx hb dX0_commit_0 rfl (lv_at hl 0 rfl) ?_
  refine kv_Vv (Xr := []) (n := 0) (c_X0_needTransaction l dC dI cA h0 q0 q1 q2 q3 q4 q5 w ce nm tl tc tw T n z wtc wia off  ho (by omega) hT8) hx hb hml hown hts gX0_commit_X0_needTransaction rfl ⟨rfl, rfl⟩ (by decide +kernel) rfl ⟨Nat.le_of_ble_eq_true rfl, Nat.le_of_ble_eq_true rfl⟩ hK hP hD hS hA [0] [0, 1, 2, 3, 4, 5, 6] [] rfl rfl rfl (by decide) (by decide) (q0 := 0) rfl rfl rfl (by decide) hl.1 rfl (Nat.le_of_ble_eq_true rfl) dX0_commit_1 ⟨Nat.zero_le _, Nat.zero_le _⟩ (fun H locs hP hD hS => ?_)
  have hP : va_P (dC, dI) vwCl (wX0 cA h0 q0 q1 q2 q3 q4 q5 w ce nm tl tc tw T n z wtc wia off) H := hP
  have hD : va_D A (wX0 cA h0 q0 q1 q2 q3 q4 q5 w ce nm tl tc tw T n z wtc wia off) := hD
  refine lv_aload_n hx hb dX0_commit_4 rfl (lv_at hl 0 rfl) ?_
  refine kv_Vi (Xr := []) (n := 0) (c_X0_innermostLevel l dC dI cA h0 q0 q1 q2 q3 q4 q5 w ce nm tl tc tw T n z wtc wia off  (by omega)) hx hb hml hown hts gX0_commit_X0_innermostLevel rfl ⟨rfl, rfl⟩ (by decide +kernel) rfl ⟨Nat.le_of_ble_eq_true rfl, Nat.le_of_ble_eq_true rfl⟩ hK hP hD hS hA [0] [0, 1, 2, 3, 4, 5, 6] [] rfl rfl rfl (by decide) (by decide) (q0 := 0) rfl rfl rfl (by decide) hl.1 rfl (Nat.le_of_ble_eq_true rfl) dX0_commit_5 ⟨Nat.zero_le _, Nat.zero_le _⟩ (fun H locs hP hD hS => ?_)
  have hP : va_P (dC, dI) vwCl (wX0 cA h0 q0 q1 q2 q3 q4 q5 w ce nm tl tc tw T n z wtc wia off) H := hP
  have hD : va_D A (wX0 cA h0 q0 q1 q2 q3 q4 q5 w ce nm tl tc tw T n z wtc wia off) := hD
  refine lv_istore_n (lv' := [(1, .int (nI (kx_inn nm n) - nI 1)), (0, .ref h0)]) hx hb dX0_commit_8 rfl hl (by decide) rfl (fun ls hl => ?_)
  refine lv_aload_n hx hb dX0_commit_9 rfl (lv_at hl 1 rfl) ?_
  refine va_get (D := (dC, dI)) (ci := 0) (v := .int (nI n)) (C := RX0) (T := TX0) (N := 12) hx hb hts hin hown hK hP 0 rfl rfl 7 (by decide) (hts (.fieldLink RX0 71 "NestCells" "levels" "I") (by decide +kernel)) (fun _ h9 => h9) rfl dX0_commit_10 ?_
  refine lv_iconst (v := (nI 1)) hx hb dX0_commit_13 (by decide) ?_
  refine kv_subE (d := n - 1) hx hb (by omega) dX0_commit_14 ?_
  refine lv_istore_n (lv' := [(2, .int (nI (n - 1))), (1, .int (nI (kx_inn nm n) - nI 1)), (0, .ref h0)]) hx hb dX0_commit_15 rfl hl (by decide) rfl (fun ls hl => ?_)
  have hl : lv_has ls 3 [(2, .int (nI (n - 1))), (1, .int (nI (kx_inn nm n - 1))), (0, .ref h0)] := by rw [← pk_sub hj]; exact hl
  have hP : va_P (dC, dI) vwCl (wX0 cA h0 q0 q1 q2 q3 q4 q5 w ce ((nm, tl, tc, tw, n, z).1) ((nm, tl, tc, tw, n, z).2.1) ((nm, tl, tc, tw, n, z).2.2.1) ((nm, tl, tc, tw, n, z).2.2.2.1) T ((nm, tl, tc, tw, n, z).2.2.2.2.1) ((nm, tl, tc, tw, n, z).2.2.2.2.2) wtc wia off) H := by exact hP
  have hD : va_D A (wX0 cA h0 q0 q1 q2 q3 q4 q5 w ce ((nm, tl, tc, tw, n, z).1) ((nm, tl, tc, tw, n, z).2.1) ((nm, tl, tc, tw, n, z).2.2.1) ((nm, tl, tc, tw, n, z).2.2.2.1) T ((nm, tl, tc, tw, n, z).2.2.2.2.1) ((nm, tl, tc, tw, n, z).2.2.2.2.2) wtc wia off) := by exact hD
  have lp : ∀ (k : Nat) (i : Nat) (S : kx_F), ∀ (_ : i + 1 = kx_inn nm n + k), ∀ (_ : i < n), ∀ (_ : S.2.2.2.2.1 = i + 1), ∀ (_ : S.2.2.2.2.2 ≤ 60), ∀ (_ : kx_cm (kx_inn nm n) (i + 1) S = kx_cm (kx_inn nm n) n (nm, tl, tc, tw, n, z)), ∀ (H : Heap) (locs : List Loc) (ls : Array Slot), va_P (dC, dI) vwCl (wX0 cA h0 q0 q1 q2 q3 q4 q5 w ce S.1 S.2.1 S.2.2.1 S.2.2.2.1 T S.2.2.2.2.1 S.2.2.2.2.2 wtc wia off) H → va_D A (wX0 cA h0 q0 q1 q2 q3 q4 q5 w ce S.1 S.2.1 S.2.2.1 S.2.2.2.1 T S.2.2.2.2.1 S.2.2.2.2.2 wtc wia off) → va_S A s.heap H locs → lv_has ls 3 [(0, .ref h0), (1, .int (nI (kx_inn nm n - 1))), (2, .int (nI i))] → W p l e (headSpec wsX0_commit ({ frames := 2, cells := 0, slots := 0, locals := 47 })).room s m ([.ref h0] : List Value).toArray below meth c H locs 0 0 (MQ below (va_Qi (fun (r' : Int32) (_ : Unit) => r' = (nI (T - 1))) (kB dC dI [(cA, .int)] (wX0 cA h0 q0 q1 q2 q3 q4 q5 w ce ((kx_fd (kx_cm (kx_inn nm n) n (nm, tl, tc, tw, n, z)) (kx_inn nm n - 1)).1) ((kx_fd (kx_cm (kx_inn nm n) n (nm, tl, tc, tw, n, z)) (kx_inn nm n - 1)).2.1) ((kx_fd (kx_cm (kx_inn nm n) n (nm, tl, tc, tw, n, z)) (kx_inn nm n - 1)).2.2.1) ((kx_fd (kx_cm (kx_inn nm n) n (nm, tl, tc, tw, n, z)) (kx_inn nm n - 1)).2.2.2.1) (T - 1) ((kx_fd (kx_cm (kx_inn nm n) n (nm, tl, tc, tw, n, z)) (kx_inn nm n - 1)).2.2.2.2.1) ((kx_fd (kx_cm (kx_inn nm n) n (nm, tl, tc, tw, n, z)) (kx_inn nm n - 1)).2.2.2.2.2) wtc wia off) A) A) ([.ref h0] : List Value).toArray s 0 0 A) (F0 m 16 ls []) := by
    intro k
    induction k with
    | zero =>
      intro i S hi hin2 hnS hzS he H locs ls hP hD hS hl
      have hS0 : S = kx_cm (kx_inn nm n) n (nm, tl, tc, tw, n, z) := by rw [← he, kx_cm, if_pos (by omega)]
      refine lv_iload_n hx hb dX0_commit_16 rfl (lv_at hl 2 rfl) ?_
      refine lv_iload_n hx hb dX0_commit_17 rfl (lv_at hl 1 rfl) ?_
      refine kv_le (tgt := 32) hx hb (by omega) (by omega) dX0_commit_18 (by decide) (fun h18_0 => ?_) (fun h18_0 => absurd h18_0 (by omega))
      refine lv_aload_n hx hb dX0_commit_32 rfl (lv_at hl 0 rfl) ?_
      refine va_get (D := (dC, dI)) (ci := 0) (v := .int (nI T)) (C := RX0) (T := TX0) (N := 12) hx hb hts hin hown hK hP 0 rfl rfl 6 (by decide) (hts (.fieldLink RX0 51 "NestCells" "transactions" "I") (by decide +kernel)) (fun _ h9 => h9) rfl dX0_commit_33 ?_
      refine lv_iconst (v := (nI 1)) hx hb dX0_commit_36 (by decide) ?_
      refine kv_le (tgt := 60) hx hb (by omega) (by omega) dX0_commit_37 (by decide) (fun h37_0 => absurd h37_0 (by omega)) (fun h37_0 => ?_)
      refine lv_aload_n hx hb dX0_commit_40 rfl (lv_at hl 0 rfl) ?_
      refine lv_iload_n hx hb dX0_commit_41 rfl (lv_at hl 1 rfl) ?_
      refine kv_Vv (Xr := []) (n := 1) (c_X0_foldLevel l dC dI cA h0 q0 q1 q2 q3 q4 q5 w ce S.1 S.2.1 S.2.2.1 S.2.2.2.1 T S.2.2.2.2.1 S.2.2.2.2.2 wtc wia off (kx_inn nm n - 1) (by omega) (by omega) (by omega) (by omega)) hx hb hml hown hts gX0_commit_X0_foldLevel rfl ⟨rfl, rfl⟩ (by decide +kernel) rfl ⟨Nat.le_of_ble_eq_true rfl, Nat.le_of_ble_eq_true rfl⟩ hK hP hD hS hA [0] [0, 1, 2, 3, 4, 5, 6] [] rfl rfl rfl (by decide) (by decide) (q0 := 0) rfl rfl rfl (by decide) hl.1 rfl (Nat.le_of_ble_eq_true rfl) dX0_commit_42 ⟨Nat.zero_le _, Nat.zero_le _⟩ (fun H locs hP hD hS => ?_)
      have hP : va_P (dC, dI) vwCl (wX0 cA h0 q0 q1 q2 q3 q4 q5 w ce (kx_sh S.1 (kx_inn nm n - 1) S.2.2.2.2.1) ((kx_fo (kx_tc S.2.1 S.2.2.1 (nI ((kx_inn nm n - 1) - 1)) S.2.2.2.2.2) (nI (kx_inn nm n - 1)) S.2.1 S.2.2.1 S.2.2.2.1 S.2.2.2.2.2).2.1) ((kx_fo (kx_tc S.2.1 S.2.2.1 (nI ((kx_inn nm n - 1) - 1)) S.2.2.2.2.2) (nI (kx_inn nm n - 1)) S.2.1 S.2.2.1 S.2.2.2.1 S.2.2.2.2.2).2.2.1) ((kx_fo (kx_tc S.2.1 S.2.2.1 (nI ((kx_inn nm n - 1) - 1)) S.2.2.2.2.2) (nI (kx_inn nm n - 1)) S.2.1 S.2.2.1 S.2.2.2.1 S.2.2.2.2.2).2.2.2) T (S.2.2.2.2.1 - 1) ((kx_fo (kx_tc S.2.1 S.2.2.1 (nI ((kx_inn nm n - 1) - 1)) S.2.2.2.2.2) (nI (kx_inn nm n - 1)) S.2.1 S.2.2.1 S.2.2.2.1 S.2.2.2.2.2).1) wtc wia off) H := hP
      have hD : va_D A (wX0 cA h0 q0 q1 q2 q3 q4 q5 w ce (kx_sh S.1 (kx_inn nm n - 1) S.2.2.2.2.1) ((kx_fo (kx_tc S.2.1 S.2.2.1 (nI ((kx_inn nm n - 1) - 1)) S.2.2.2.2.2) (nI (kx_inn nm n - 1)) S.2.1 S.2.2.1 S.2.2.2.1 S.2.2.2.2.2).2.1) ((kx_fo (kx_tc S.2.1 S.2.2.1 (nI ((kx_inn nm n - 1) - 1)) S.2.2.2.2.2) (nI (kx_inn nm n - 1)) S.2.1 S.2.2.1 S.2.2.2.1 S.2.2.2.2.2).2.2.1) ((kx_fo (kx_tc S.2.1 S.2.2.1 (nI ((kx_inn nm n - 1) - 1)) S.2.2.2.2.2) (nI (kx_inn nm n - 1)) S.2.1 S.2.2.1 S.2.2.2.1 S.2.2.2.2.2).2.2.2) T (S.2.2.2.2.1 - 1) ((kx_fo (kx_tc S.2.1 S.2.2.1 (nI ((kx_inn nm n - 1) - 1)) S.2.2.2.2.2) (nI (kx_inn nm n - 1)) S.2.1 S.2.2.1 S.2.2.2.1 S.2.2.2.2.2).1) wtc wia off) := hD
      have hP : va_P (dC, dI) vwCl (wX0 cA h0 q0 q1 q2 q3 q4 q5 w ce ((kx_fd S (kx_inn nm n - 1)).1) ((kx_fd S (kx_inn nm n - 1)).2.1) ((kx_fd S (kx_inn nm n - 1)).2.2.1) ((kx_fd S (kx_inn nm n - 1)).2.2.2.1) T ((kx_fd S (kx_inn nm n - 1)).2.2.2.2.1) ((kx_fd S (kx_inn nm n - 1)).2.2.2.2.2) wtc wia off) H := by exact hP
      have hD : va_D A (wX0 cA h0 q0 q1 q2 q3 q4 q5 w ce ((kx_fd S (kx_inn nm n - 1)).1) ((kx_fd S (kx_inn nm n - 1)).2.1) ((kx_fd S (kx_inn nm n - 1)).2.2.1) ((kx_fd S (kx_inn nm n - 1)).2.2.2.1) T ((kx_fd S (kx_inn nm n - 1)).2.2.2.2.1) ((kx_fd S (kx_inn nm n - 1)).2.2.2.2.2) wtc wia off) := by exact hD
      refine lv_aload_n hx hb dX0_commit_45 rfl (lv_at hl 0 rfl) ?_
      refine lv_dup hx hb dX0_commit_46 rfl ?_
      refine va_get (D := (dC, dI)) (ci := 0) (v := .int (nI T)) (C := RX0) (T := TX0) (N := 12) hx hb hts hin hown hK hP 0 rfl rfl 6 (by decide) (hts (.fieldLink RX0 51 "NestCells" "transactions" "I") (by decide +kernel)) (fun _ h9 => h9) rfl dX0_commit_47 ?_
      refine lv_iconst (v := (nI 1)) hx hb dX0_commit_50 (by decide) ?_
      refine kv_subE (d := T - 1) hx hb (by omega) dX0_commit_51 ?_
      refine va_put (D := (dC, dI)) (ci := 0) (v := .int (nI (T - 1))) (ty := .int) (C := RX0) (T := TX0) (N := 12) hx hb hts hin tyX0 tyX0_ok nmX0 hown hK hP hD hS 0 rfl rfl 6 (by decide) (hts (.fieldLink RX0 51 "NestCells" "transactions" "I") (by decide +kernel)) (fun _ h9 => h9) rfl (by decide +kernel) rfl rfl (Nat.le_of_ble_eq_true rfl) dX0_commit_52 (fun H locs hP hD hS => ?_)
      have hP : va_P (dC, dI) vwCl (wX0 cA h0 q0 q1 q2 q3 q4 q5 w ce ((kx_fd S (kx_inn nm n - 1)).1) ((kx_fd S (kx_inn nm n - 1)).2.1) ((kx_fd S (kx_inn nm n - 1)).2.2.1) ((kx_fd S (kx_inn nm n - 1)).2.2.2.1) (T - 1) ((kx_fd S (kx_inn nm n - 1)).2.2.2.2.1) ((kx_fd S (kx_inn nm n - 1)).2.2.2.2.2) wtc wia off) H := hP
      have hD : va_D A (wX0 cA h0 q0 q1 q2 q3 q4 q5 w ce ((kx_fd S (kx_inn nm n - 1)).1) ((kx_fd S (kx_inn nm n - 1)).2.1) ((kx_fd S (kx_inn nm n - 1)).2.2.1) ((kx_fd S (kx_inn nm n - 1)).2.2.2.1) (T - 1) ((kx_fd S (kx_inn nm n - 1)).2.2.2.2.1) ((kx_fd S (kx_inn nm n - 1)).2.2.2.2.2) wtc wia off) := hD
      refine lv_aload_n hx hb dX0_commit_55 rfl (lv_at hl 0 rfl) ?_
      refine va_get (D := (dC, dI)) (ci := 0) (v := .int (nI (T - 1))) (C := RX0) (T := TX0) (N := 12) hx hb hts hin hown hK hP 0 rfl rfl 6 (by decide) (hts (.fieldLink RX0 51 "NestCells" "transactions" "I") (by decide +kernel)) (fun _ h9 => h9) rfl dX0_commit_56 ?_
      exact kMi_ret hx hb hr hlocks hP hK hD hS dX0_commit_59 rfl (by rw [hS0])
    | succ k ih =>
      intro i S hi hin2 hnS hzS he H locs ls hP hD hS hl
      refine lv_iload_n hx hb dX0_commit_16 rfl (lv_at hl 2 rfl) ?_
      refine lv_iload_n hx hb dX0_commit_17 rfl (lv_at hl 1 rfl) ?_
      refine kv_le (tgt := 32) hx hb (by omega) (by omega) dX0_commit_18 (by decide) (fun h18_0 => absurd h18_0 (by omega)) (fun h18_0 => ?_)
      refine lv_aload_n hx hb dX0_commit_21 rfl (lv_at hl 0 rfl) ?_
      refine lv_iload_n hx hb dX0_commit_22 rfl (lv_at hl 2 rfl) ?_
      refine kv_Vv (Xr := []) (n := 1) (c_X0_foldLevel l dC dI cA h0 q0 q1 q2 q3 q4 q5 w ce S.1 S.2.1 S.2.2.1 S.2.2.2.1 T S.2.2.2.2.1 S.2.2.2.2.2 wtc wia off i (by omega) (by omega) (by omega) (by omega)) hx hb hml hown hts gX0_commit_X0_foldLevel rfl ⟨rfl, rfl⟩ (by decide +kernel) rfl ⟨Nat.le_of_ble_eq_true rfl, Nat.le_of_ble_eq_true rfl⟩ hK hP hD hS hA [0] [0, 1, 2, 3, 4, 5, 6] [] rfl rfl rfl (by decide) (by decide) (q0 := 0) rfl rfl rfl (by decide) hl.1 rfl (Nat.le_of_ble_eq_true rfl) dX0_commit_23 ⟨Nat.zero_le _, Nat.zero_le _⟩ (fun H locs hP hD hS => ?_)
      have hP : va_P (dC, dI) vwCl (wX0 cA h0 q0 q1 q2 q3 q4 q5 w ce (kx_sh S.1 i S.2.2.2.2.1) ((kx_fo (kx_tc S.2.1 S.2.2.1 (nI (i - 1)) S.2.2.2.2.2) (nI i) S.2.1 S.2.2.1 S.2.2.2.1 S.2.2.2.2.2).2.1) ((kx_fo (kx_tc S.2.1 S.2.2.1 (nI (i - 1)) S.2.2.2.2.2) (nI i) S.2.1 S.2.2.1 S.2.2.2.1 S.2.2.2.2.2).2.2.1) ((kx_fo (kx_tc S.2.1 S.2.2.1 (nI (i - 1)) S.2.2.2.2.2) (nI i) S.2.1 S.2.2.1 S.2.2.2.1 S.2.2.2.2.2).2.2.2) T (S.2.2.2.2.1 - 1) ((kx_fo (kx_tc S.2.1 S.2.2.1 (nI (i - 1)) S.2.2.2.2.2) (nI i) S.2.1 S.2.2.1 S.2.2.2.1 S.2.2.2.2.2).1) wtc wia off) H := hP
      have hD : va_D A (wX0 cA h0 q0 q1 q2 q3 q4 q5 w ce (kx_sh S.1 i S.2.2.2.2.1) ((kx_fo (kx_tc S.2.1 S.2.2.1 (nI (i - 1)) S.2.2.2.2.2) (nI i) S.2.1 S.2.2.1 S.2.2.2.1 S.2.2.2.2.2).2.1) ((kx_fo (kx_tc S.2.1 S.2.2.1 (nI (i - 1)) S.2.2.2.2.2) (nI i) S.2.1 S.2.2.1 S.2.2.2.1 S.2.2.2.2.2).2.2.1) ((kx_fo (kx_tc S.2.1 S.2.2.1 (nI (i - 1)) S.2.2.2.2.2) (nI i) S.2.1 S.2.2.1 S.2.2.2.1 S.2.2.2.2.2).2.2.2) T (S.2.2.2.2.1 - 1) ((kx_fo (kx_tc S.2.1 S.2.2.1 (nI (i - 1)) S.2.2.2.2.2) (nI i) S.2.1 S.2.2.1 S.2.2.2.1 S.2.2.2.2.2).1) wtc wia off) := hD
      have hP : va_P (dC, dI) vwCl (wX0 cA h0 q0 q1 q2 q3 q4 q5 w ce ((kx_fd S i).1) ((kx_fd S i).2.1) ((kx_fd S i).2.2.1) ((kx_fd S i).2.2.2.1) T ((kx_fd S i).2.2.2.2.1) ((kx_fd S i).2.2.2.2.2) wtc wia off) H := by exact hP
      have hD : va_D A (wX0 cA h0 q0 q1 q2 q3 q4 q5 w ce ((kx_fd S i).1) ((kx_fd S i).2.1) ((kx_fd S i).2.2.1) ((kx_fd S i).2.2.2.1) T ((kx_fd S i).2.2.2.2.1) ((kx_fd S i).2.2.2.2.2) wtc wia off) := by exact hD
      refine lv_iinc (v := (nI (i - 1))) (lv' := [(2, .int (nI (i - 1))), (0, .ref h0), (1, .int (nI (kx_inn nm n - 1)))]) hx hb dX0_commit_26 hl (k := 2) rfl (kv_dec _ (by decide) (by omega)) (by decide) rfl (fun ls hl => ?_)
      refine lv_goto (tgt := 16) hx hb dX0_commit_29 (by decide) ?_
      exact ih (i - 1) (kx_fd S i) (by omega) (by omega) (by show S.2.2.2.2.1 - 1 = _; omega) (Nat.le_trans (kx_fd_z S i) hzS) (by rw [← he, show i - 1 + 1 = i by omega, kx_cm, if_neg (by omega)]) _ _ _ hP hD hS (lv_sub hl [1, 2, 0] rfl)
  exact lp (n - kx_inn nm n) (n - 1) (nm, tl, tc, tw, n, z) (by omega) (by omega) (by show n = _; omega) hz (by rw [show n - 1 + 1 = n by omega]) _ _ _ hP hD hS (lv_sub hl [2, 1, 0] rfl)
set_option maxHeartbeats 4000000 in
set_option maxRecDepth 100000 in
/-- NestCells.commit_o  -/
theorem c_X0_commit_o (l : Launch) (dC : Nat → ClassId) (dI : Nat → Nat → Nat) (cA : ClassId) (h0 q0 q1 q2 q3 q4 q5 : Nat) (w ce nm tl tc tw : Nat → Int32) (T n z : Nat) (wtc wia off : Int32)  (ho : off = 0) (hT8 : T ≤ 8) (hz : z ≤ 60) (hn : n ≤ 88) (hj : 1 ≤ kx_inn nm n) (hT : T = 1) : kMi l yX0_commit wsX0_commit ({ frames := 3, cells := 0, slots := 0, locals := 67 }) dC dI [(cA, .int)] (wX0 cA h0 q0 q1 q2 q3 q4 q5 w ce nm tl tc tw T n z wtc wia off) [.ref h0] (if (kx_kd (kx_tc (kx_cm (kx_inn nm n) n (nm, tl, tc, tw, n, z)).2.1 (kx_cm (kx_inn nm n) n (nm, tl, tc, tw, n, z)).2.2.1 (nI 0) (kx_cm (kx_inn nm n) n (nm, tl, tc, tw, n, z)).2.2.2.2.2) ce (w, wtc, wia, off)).2.2.2 = 0 then nI 0 else (-1)) (wX0 cA h0 q0 q1 q2 q3 q4 q5 (((kx_kd (kx_tc (kx_cm (kx_inn nm n) n (nm, tl, tc, tw, n, z)).2.1 (kx_cm (kx_inn nm n) n (nm, tl, tc, tw, n, z)).2.2.1 (nI 0) (kx_cm (kx_inn nm n) n (nm, tl, tc, tw, n, z)).2.2.2.2.2) ce (w, wtc, wia, off))).1) ce ((kx_cm (kx_inn nm n) n (nm, tl, tc, tw, n, z)).1) ((kx_cm (kx_inn nm n) n (nm, tl, tc, tw, n, z)).2.1) ((kx_cm (kx_inn nm n) n (nm, tl, tc, tw, n, z)).2.2.1) ((kx_cm (kx_inn nm n) n (nm, tl, tc, tw, n, z)).2.2.2.1) 0 0 0 (((kx_kd (kx_tc (kx_cm (kx_inn nm n) n (nm, tl, tc, tw, n, z)).2.1 (kx_cm (kx_inn nm n) n (nm, tl, tc, tw, n, z)).2.2.1 (nI 0) (kx_cm (kx_inn nm n) n (nm, tl, tc, tw, n, z)).2.2.2.2.2) ce (w, wtc, wia, off))).2.1) (((kx_kd (kx_tc (kx_cm (kx_inn nm n) n (nm, tl, tc, tw, n, z)).2.1 (kx_cm (kx_inn nm n) n (nm, tl, tc, tw, n, z)).2.2.1 (nI 0) (kx_cm (kx_inn nm n) n (nm, tl, tc, tw, n, z)).2.2.2.2.2) ce (w, wtc, wia, off))).2.2.1) (((kx_kd (kx_tc (kx_cm (kx_inn nm n) n (nm, tl, tc, tw, n, z)).2.1 (kx_cm (kx_inn nm n) n (nm, tl, tc, tw, n, z)).2.2.1 (nI 0) (kx_cm (kx_inn nm n) n (nm, tl, tc, tw, n, z)).2.2.2.2.2) ce (w, wtc, wia, off))).2.2.2)) := by
  refine kMi_of (cc := cX0_commit) (maxL := 3) (ret := (some .int)) (by decide) rfl (Nat.le_of_ble_eq_true rfl) ?_
  intro p e s m below meth c A ls hx hb hml hr hts hown hlocks hA hP hK hD hS hl
  have hin : ∀ w ∈ u_ws RX0 TX0 12, w ∈ wsX0_commit := by decide +kernel
  have hl : lv_has ls 3 [(0, .ref h0)] := hl
  have hjn := kx_inn_le nm n
  refine lv_aload_n hx hb dX0_commit_0 rfl (lv_at hl 0 rfl) ?_
  refine kv_Vv (Xr := []) (n := 0) (c_X0_needTransaction l dC dI cA h0 q0 q1 q2 q3 q4 q5 w ce nm tl tc tw T n z wtc wia off  ho (by omega) hT8) hx hb hml hown hts gX0_commit_X0_needTransaction rfl ⟨rfl, rfl⟩ (by decide +kernel) rfl ⟨Nat.le_of_ble_eq_true rfl, Nat.le_of_ble_eq_true rfl⟩ hK hP hD hS hA [0] [0, 1, 2, 3, 4, 5, 6] [] rfl rfl rfl (by decide) (by decide) (q0 := 0) rfl rfl rfl (by decide) hl.1 rfl (Nat.le_of_ble_eq_true rfl) dX0_commit_1 ⟨Nat.zero_le _, Nat.zero_le _⟩ (fun H locs hP hD hS => ?_)
  have hP : va_P (dC, dI) vwCl (wX0 cA h0 q0 q1 q2 q3 q4 q5 w ce nm tl tc tw T n z wtc wia off) H := hP
  have hD : va_D A (wX0 cA h0 q0 q1 q2 q3 q4 q5 w ce nm tl tc tw T n z wtc wia off) := hD
  refine lv_aload_n hx hb dX0_commit_4 rfl (lv_at hl 0 rfl) ?_
  refine kv_Vi (Xr := []) (n := 0) (c_X0_innermostLevel l dC dI cA h0 q0 q1 q2 q3 q4 q5 w ce nm tl tc tw T n z wtc wia off  (by omega)) hx hb hml hown hts gX0_commit_X0_innermostLevel rfl ⟨rfl, rfl⟩ (by decide +kernel) rfl ⟨Nat.le_of_ble_eq_true rfl, Nat.le_of_ble_eq_true rfl⟩ hK hP hD hS hA [0] [0, 1, 2, 3, 4, 5, 6] [] rfl rfl rfl (by decide) (by decide) (q0 := 0) rfl rfl rfl (by decide) hl.1 rfl (Nat.le_of_ble_eq_true rfl) dX0_commit_5 ⟨Nat.zero_le _, Nat.zero_le _⟩ (fun H locs hP hD hS => ?_)
  have hP : va_P (dC, dI) vwCl (wX0 cA h0 q0 q1 q2 q3 q4 q5 w ce nm tl tc tw T n z wtc wia off) H := hP
  have hD : va_D A (wX0 cA h0 q0 q1 q2 q3 q4 q5 w ce nm tl tc tw T n z wtc wia off) := hD
  refine lv_istore_n (lv' := [(1, .int (nI (kx_inn nm n) - nI 1)), (0, .ref h0)]) hx hb dX0_commit_8 rfl hl (by decide) rfl (fun ls hl => ?_)
  refine lv_aload_n hx hb dX0_commit_9 rfl (lv_at hl 1 rfl) ?_
  refine va_get (D := (dC, dI)) (ci := 0) (v := .int (nI n)) (C := RX0) (T := TX0) (N := 12) hx hb hts hin hown hK hP 0 rfl rfl 7 (by decide) (hts (.fieldLink RX0 71 "NestCells" "levels" "I") (by decide +kernel)) (fun _ h9 => h9) rfl dX0_commit_10 ?_
  refine lv_iconst (v := (nI 1)) hx hb dX0_commit_13 (by decide) ?_
  refine kv_subE (d := n - 1) hx hb (by omega) dX0_commit_14 ?_
  refine lv_istore_n (lv' := [(2, .int (nI (n - 1))), (1, .int (nI (kx_inn nm n) - nI 1)), (0, .ref h0)]) hx hb dX0_commit_15 rfl hl (by decide) rfl (fun ls hl => ?_)
  have hl : lv_has ls 3 [(2, .int (nI (n - 1))), (1, .int (nI (kx_inn nm n - 1))), (0, .ref h0)] := by rw [← pk_sub hj]; exact hl
  have hP : va_P (dC, dI) vwCl (wX0 cA h0 q0 q1 q2 q3 q4 q5 w ce ((nm, tl, tc, tw, n, z).1) ((nm, tl, tc, tw, n, z).2.1) ((nm, tl, tc, tw, n, z).2.2.1) ((nm, tl, tc, tw, n, z).2.2.2.1) T ((nm, tl, tc, tw, n, z).2.2.2.2.1) ((nm, tl, tc, tw, n, z).2.2.2.2.2) wtc wia off) H := by exact hP
  have hD : va_D A (wX0 cA h0 q0 q1 q2 q3 q4 q5 w ce ((nm, tl, tc, tw, n, z).1) ((nm, tl, tc, tw, n, z).2.1) ((nm, tl, tc, tw, n, z).2.2.1) ((nm, tl, tc, tw, n, z).2.2.2.1) T ((nm, tl, tc, tw, n, z).2.2.2.2.1) ((nm, tl, tc, tw, n, z).2.2.2.2.2) wtc wia off) := by exact hD
  have lp : ∀ (k : Nat) (i : Nat) (S : kx_F), ∀ (_ : i + 1 = kx_inn nm n + k), ∀ (_ : i < n), ∀ (_ : S.2.2.2.2.1 = i + 1), ∀ (_ : S.2.2.2.2.2 ≤ 60), ∀ (_ : kx_cm (kx_inn nm n) (i + 1) S = kx_cm (kx_inn nm n) n (nm, tl, tc, tw, n, z)), ∀ (H : Heap) (locs : List Loc) (ls : Array Slot), va_P (dC, dI) vwCl (wX0 cA h0 q0 q1 q2 q3 q4 q5 w ce S.1 S.2.1 S.2.2.1 S.2.2.2.1 T S.2.2.2.2.1 S.2.2.2.2.2 wtc wia off) H → va_D A (wX0 cA h0 q0 q1 q2 q3 q4 q5 w ce S.1 S.2.1 S.2.2.1 S.2.2.2.1 T S.2.2.2.2.1 S.2.2.2.2.2 wtc wia off) → va_S A s.heap H locs → lv_has ls 3 [(0, .ref h0), (1, .int (nI (kx_inn nm n - 1))), (2, .int (nI i))] → W p l e (headSpec wsX0_commit ({ frames := 3, cells := 0, slots := 0, locals := 67 })).room s m ([.ref h0] : List Value).toArray below meth c H locs 0 0 (MQ below (va_Qi (fun (r' : Int32) (_ : Unit) => r' = (if (kx_kd (kx_tc (kx_cm (kx_inn nm n) n (nm, tl, tc, tw, n, z)).2.1 (kx_cm (kx_inn nm n) n (nm, tl, tc, tw, n, z)).2.2.1 (nI 0) (kx_cm (kx_inn nm n) n (nm, tl, tc, tw, n, z)).2.2.2.2.2) ce (w, wtc, wia, off)).2.2.2 = 0 then nI 0 else (-1))) (kB dC dI [(cA, .int)] (wX0 cA h0 q0 q1 q2 q3 q4 q5 (((kx_kd (kx_tc (kx_cm (kx_inn nm n) n (nm, tl, tc, tw, n, z)).2.1 (kx_cm (kx_inn nm n) n (nm, tl, tc, tw, n, z)).2.2.1 (nI 0) (kx_cm (kx_inn nm n) n (nm, tl, tc, tw, n, z)).2.2.2.2.2) ce (w, wtc, wia, off))).1) ce ((kx_cm (kx_inn nm n) n (nm, tl, tc, tw, n, z)).1) ((kx_cm (kx_inn nm n) n (nm, tl, tc, tw, n, z)).2.1) ((kx_cm (kx_inn nm n) n (nm, tl, tc, tw, n, z)).2.2.1) ((kx_cm (kx_inn nm n) n (nm, tl, tc, tw, n, z)).2.2.2.1) 0 0 0 (((kx_kd (kx_tc (kx_cm (kx_inn nm n) n (nm, tl, tc, tw, n, z)).2.1 (kx_cm (kx_inn nm n) n (nm, tl, tc, tw, n, z)).2.2.1 (nI 0) (kx_cm (kx_inn nm n) n (nm, tl, tc, tw, n, z)).2.2.2.2.2) ce (w, wtc, wia, off))).2.1) (((kx_kd (kx_tc (kx_cm (kx_inn nm n) n (nm, tl, tc, tw, n, z)).2.1 (kx_cm (kx_inn nm n) n (nm, tl, tc, tw, n, z)).2.2.1 (nI 0) (kx_cm (kx_inn nm n) n (nm, tl, tc, tw, n, z)).2.2.2.2.2) ce (w, wtc, wia, off))).2.2.1) (((kx_kd (kx_tc (kx_cm (kx_inn nm n) n (nm, tl, tc, tw, n, z)).2.1 (kx_cm (kx_inn nm n) n (nm, tl, tc, tw, n, z)).2.2.1 (nI 0) (kx_cm (kx_inn nm n) n (nm, tl, tc, tw, n, z)).2.2.2.2.2) ce (w, wtc, wia, off))).2.2.2)) A) A) ([.ref h0] : List Value).toArray s 0 0 A) (F0 m 16 ls []) := by
    intro k
    induction k with
    | zero =>
      intro i S hi hin2 hnS hzS he H locs ls hP hD hS hl
      have hS0 : S = kx_cm (kx_inn nm n) n (nm, tl, tc, tw, n, z) := by rw [← he, kx_cm, if_pos (by omega)]
      refine lv_iload_n hx hb dX0_commit_16 rfl (lv_at hl 2 rfl) ?_
      refine lv_iload_n hx hb dX0_commit_17 rfl (lv_at hl 1 rfl) ?_
      refine kv_le (tgt := 32) hx hb (by omega) (by omega) dX0_commit_18 (by decide) (fun h18_0 => ?_) (fun h18_0 => absurd h18_0 (by omega))
      refine lv_aload_n hx hb dX0_commit_32 rfl (lv_at hl 0 rfl) ?_
      refine va_get (D := (dC, dI)) (ci := 0) (v := .int (nI T)) (C := RX0) (T := TX0) (N := 12) hx hb hts hin hown hK hP 0 rfl rfl 6 (by decide) (hts (.fieldLink RX0 51 "NestCells" "transactions" "I") (by decide +kernel)) (fun _ h9 => h9) rfl dX0_commit_33 ?_
      refine lv_iconst (v := (nI 1)) hx hb dX0_commit_36 (by decide) ?_
      refine kv_le (tgt := 60) hx hb (by omega) (by omega) dX0_commit_37 (by decide) (fun h37_0 => ?_) (fun h37_0 => absurd h37_0 (by omega))
      refine lv_aload_n hx hb dX0_commit_60 rfl (lv_at hl 0 rfl) ?_
      refine kv_Vv (Xr := []) (n := 0) (c_X0_keepOnDisk l dC dI cA h0 q0 q1 q2 q3 q4 q5 w ce S.1 S.2.1 S.2.2.1 S.2.2.2.1 T S.2.2.2.2.1 S.2.2.2.2.2 wtc wia off  (by omega)) hx hb hml hown hts gX0_commit_X0_keepOnDisk rfl ⟨rfl, rfl⟩ (by decide +kernel) rfl ⟨Nat.le_of_ble_eq_true rfl, Nat.le_of_ble_eq_true rfl⟩ hK hP hD hS hA [0] [0, 1, 2, 3, 4, 5, 6] [] rfl rfl rfl (by decide) (by decide) (q0 := 0) rfl rfl rfl (by decide) hl.1 rfl (Nat.le_of_ble_eq_true rfl) dX0_commit_61 ⟨Nat.zero_le _, Nat.zero_le _⟩ (fun H locs hP hD hS => ?_)
      have hP : va_P (dC, dI) vwCl (wX0 cA h0 q0 q1 q2 q3 q4 q5 ((kx_kd (kx_tc S.2.1 S.2.2.1 (nI 0) S.2.2.2.2.2) ce (w, wtc, wia, off)).1) ce S.1 S.2.1 S.2.2.1 S.2.2.2.1 T S.2.2.2.2.1 S.2.2.2.2.2 ((kx_kd (kx_tc S.2.1 S.2.2.1 (nI 0) S.2.2.2.2.2) ce (w, wtc, wia, off)).2.1) ((kx_kd (kx_tc S.2.1 S.2.2.1 (nI 0) S.2.2.2.2.2) ce (w, wtc, wia, off)).2.2.1) ((kx_kd (kx_tc S.2.1 S.2.2.1 (nI 0) S.2.2.2.2.2) ce (w, wtc, wia, off)).2.2.2)) H := hP
      have hD : va_D A (wX0 cA h0 q0 q1 q2 q3 q4 q5 ((kx_kd (kx_tc S.2.1 S.2.2.1 (nI 0) S.2.2.2.2.2) ce (w, wtc, wia, off)).1) ce S.1 S.2.1 S.2.2.1 S.2.2.2.1 T S.2.2.2.2.1 S.2.2.2.2.2 ((kx_kd (kx_tc S.2.1 S.2.2.1 (nI 0) S.2.2.2.2.2) ce (w, wtc, wia, off)).2.1) ((kx_kd (kx_tc S.2.1 S.2.2.1 (nI 0) S.2.2.2.2.2) ce (w, wtc, wia, off)).2.2.1) ((kx_kd (kx_tc S.2.1 S.2.2.1 (nI 0) S.2.2.2.2.2) ce (w, wtc, wia, off)).2.2.2)) := hD
      have hP : va_P (dC, dI) vwCl (wX0 cA h0 q0 q1 q2 q3 q4 q5 (((kx_kd (kx_tc S.2.1 S.2.2.1 (nI 0) S.2.2.2.2.2) ce (w, wtc, wia, off))).1) ce S.1 S.2.1 S.2.2.1 S.2.2.2.1 T S.2.2.2.2.1 S.2.2.2.2.2 (((kx_kd (kx_tc S.2.1 S.2.2.1 (nI 0) S.2.2.2.2.2) ce (w, wtc, wia, off))).2.1) (((kx_kd (kx_tc S.2.1 S.2.2.1 (nI 0) S.2.2.2.2.2) ce (w, wtc, wia, off))).2.2.1) (((kx_kd (kx_tc S.2.1 S.2.2.1 (nI 0) S.2.2.2.2.2) ce (w, wtc, wia, off))).2.2.2)) H := by exact hP
      have hD : va_D A (wX0 cA h0 q0 q1 q2 q3 q4 q5 (((kx_kd (kx_tc S.2.1 S.2.2.1 (nI 0) S.2.2.2.2.2) ce (w, wtc, wia, off))).1) ce S.1 S.2.1 S.2.2.1 S.2.2.2.1 T S.2.2.2.2.1 S.2.2.2.2.2 (((kx_kd (kx_tc S.2.1 S.2.2.1 (nI 0) S.2.2.2.2.2) ce (w, wtc, wia, off))).2.1) (((kx_kd (kx_tc S.2.1 S.2.2.1 (nI 0) S.2.2.2.2.2) ce (w, wtc, wia, off))).2.2.1) (((kx_kd (kx_tc S.2.1 S.2.2.1 (nI 0) S.2.2.2.2.2) ce (w, wtc, wia, off))).2.2.2)) := by exact hD
      refine lv_aload_n hx hb dX0_commit_64 rfl (lv_at hl 0 rfl) ?_
      refine kv_Vv (Xr := []) (n := 0) (c_X0_forgetTransactions l dC dI cA h0 q0 q1 q2 q3 q4 q5 (((kx_kd (kx_tc S.2.1 S.2.2.1 (nI 0) S.2.2.2.2.2) ce (w, wtc, wia, off))).1) ce S.1 S.2.1 S.2.2.1 S.2.2.2.1 T S.2.2.2.2.1 S.2.2.2.2.2 (((kx_kd (kx_tc S.2.1 S.2.2.1 (nI 0) S.2.2.2.2.2) ce (w, wtc, wia, off))).2.1) (((kx_kd (kx_tc S.2.1 S.2.2.1 (nI 0) S.2.2.2.2.2) ce (w, wtc, wia, off))).2.2.1) (((kx_kd (kx_tc S.2.1 S.2.2.1 (nI 0) S.2.2.2.2.2) ce (w, wtc, wia, off))).2.2.2)  ) hx hb hml hown hts gX0_commit_X0_forgetTransactions rfl ⟨rfl, rfl⟩ (by decide +kernel) rfl ⟨Nat.le_of_ble_eq_true rfl, Nat.le_of_ble_eq_true rfl⟩ hK hP hD hS hA [0] [0, 1, 2, 3, 4, 5, 6] [] rfl rfl rfl (by decide) (by decide) (q0 := 0) rfl rfl rfl (by decide) hl.1 rfl (Nat.le_of_ble_eq_true rfl) dX0_commit_65 ⟨Nat.zero_le _, Nat.zero_le _⟩ (fun H locs hP hD hS => ?_)
      have hP : va_P (dC, dI) vwCl (wX0 cA h0 q0 q1 q2 q3 q4 q5 (((kx_kd (kx_tc S.2.1 S.2.2.1 (nI 0) S.2.2.2.2.2) ce (w, wtc, wia, off))).1) ce S.1 S.2.1 S.2.2.1 S.2.2.2.1 0 0 0 (((kx_kd (kx_tc S.2.1 S.2.2.1 (nI 0) S.2.2.2.2.2) ce (w, wtc, wia, off))).2.1) (((kx_kd (kx_tc S.2.1 S.2.2.1 (nI 0) S.2.2.2.2.2) ce (w, wtc, wia, off))).2.2.1) (((kx_kd (kx_tc S.2.1 S.2.2.1 (nI 0) S.2.2.2.2.2) ce (w, wtc, wia, off))).2.2.2)) H := hP
      have hD : va_D A (wX0 cA h0 q0 q1 q2 q3 q4 q5 (((kx_kd (kx_tc S.2.1 S.2.2.1 (nI 0) S.2.2.2.2.2) ce (w, wtc, wia, off))).1) ce S.1 S.2.1 S.2.2.1 S.2.2.2.1 0 0 0 (((kx_kd (kx_tc S.2.1 S.2.2.1 (nI 0) S.2.2.2.2.2) ce (w, wtc, wia, off))).2.1) (((kx_kd (kx_tc S.2.1 S.2.2.1 (nI 0) S.2.2.2.2.2) ce (w, wtc, wia, off))).2.2.1) (((kx_kd (kx_tc S.2.1 S.2.2.1 (nI 0) S.2.2.2.2.2) ce (w, wtc, wia, off))).2.2.2)) := hD
      refine lv_aload_n hx hb dX0_commit_68 rfl (lv_at hl 0 rfl) ?_
      refine va_get (D := (dC, dI)) (ci := 0) (v := .int (((kx_kd (kx_tc S.2.1 S.2.2.1 (nI 0) S.2.2.2.2.2) ce (w, wtc, wia, off))).2.2.2)) (C := RX0) (T := TX0) (N := 12) hx hb hts hin hown hK hP 0 rfl rfl 11 (by decide) (hts (.fieldLink RX0 44 "NestCells" "off" "Z") (by decide +kernel)) (fun _ h9 => h9) rfl dX0_commit_69 ?_
      refine lv_if_eq (tgt := 79) hx hb dX0_commit_72 (by decide) (fun h72_0 => ?_) (fun h72_0 => ?_)
      · skip
        refine lv_iconst (v := (nI 0)) hx hb dX0_commit_79 (by decide) ?_
        exact kMi_ret hx hb hr hlocks hP hK hD hS dX0_commit_80 (by rw [← hS0, if_pos h72_0]) (by rw [← hS0])
      · skip
        refine lv_iconst (v := (-1)) hx hb dX0_commit_75 (by decide) ?_
        refine lv_goto (tgt := 80) hx hb dX0_commit_76 (by decide) ?_
        exact kMi_ret hx hb hr hlocks hP hK hD hS dX0_commit_80 (by rw [← hS0, if_neg h72_0]) (by rw [← hS0])
    | succ k ih =>
      intro i S hi hin2 hnS hzS he H locs ls hP hD hS hl
      refine lv_iload_n hx hb dX0_commit_16 rfl (lv_at hl 2 rfl) ?_
      refine lv_iload_n hx hb dX0_commit_17 rfl (lv_at hl 1 rfl) ?_
      refine kv_le (tgt := 32) hx hb (by omega) (by omega) dX0_commit_18 (by decide) (fun h18_0 => absurd h18_0 (by omega)) (fun h18_0 => ?_)
      refine lv_aload_n hx hb dX0_commit_21 rfl (lv_at hl 0 rfl) ?_
      refine lv_iload_n hx hb dX0_commit_22 rfl (lv_at hl 2 rfl) ?_
      refine kv_Vv (Xr := []) (n := 1) (c_X0_foldLevel l dC dI cA h0 q0 q1 q2 q3 q4 q5 w ce S.1 S.2.1 S.2.2.1 S.2.2.2.1 T S.2.2.2.2.1 S.2.2.2.2.2 wtc wia off i (by omega) (by omega) (by omega) (by omega)) hx hb hml hown hts gX0_commit_X0_foldLevel rfl ⟨rfl, rfl⟩ (by decide +kernel) rfl ⟨Nat.le_of_ble_eq_true rfl, Nat.le_of_ble_eq_true rfl⟩ hK hP hD hS hA [0] [0, 1, 2, 3, 4, 5, 6] [] rfl rfl rfl (by decide) (by decide) (q0 := 0) rfl rfl rfl (by decide) hl.1 rfl (Nat.le_of_ble_eq_true rfl) dX0_commit_23 ⟨Nat.zero_le _, Nat.zero_le _⟩ (fun H locs hP hD hS => ?_)
      have hP : va_P (dC, dI) vwCl (wX0 cA h0 q0 q1 q2 q3 q4 q5 w ce (kx_sh S.1 i S.2.2.2.2.1) ((kx_fo (kx_tc S.2.1 S.2.2.1 (nI (i - 1)) S.2.2.2.2.2) (nI i) S.2.1 S.2.2.1 S.2.2.2.1 S.2.2.2.2.2).2.1) ((kx_fo (kx_tc S.2.1 S.2.2.1 (nI (i - 1)) S.2.2.2.2.2) (nI i) S.2.1 S.2.2.1 S.2.2.2.1 S.2.2.2.2.2).2.2.1) ((kx_fo (kx_tc S.2.1 S.2.2.1 (nI (i - 1)) S.2.2.2.2.2) (nI i) S.2.1 S.2.2.1 S.2.2.2.1 S.2.2.2.2.2).2.2.2) T (S.2.2.2.2.1 - 1) ((kx_fo (kx_tc S.2.1 S.2.2.1 (nI (i - 1)) S.2.2.2.2.2) (nI i) S.2.1 S.2.2.1 S.2.2.2.1 S.2.2.2.2.2).1) wtc wia off) H := hP
      have hD : va_D A (wX0 cA h0 q0 q1 q2 q3 q4 q5 w ce (kx_sh S.1 i S.2.2.2.2.1) ((kx_fo (kx_tc S.2.1 S.2.2.1 (nI (i - 1)) S.2.2.2.2.2) (nI i) S.2.1 S.2.2.1 S.2.2.2.1 S.2.2.2.2.2).2.1) ((kx_fo (kx_tc S.2.1 S.2.2.1 (nI (i - 1)) S.2.2.2.2.2) (nI i) S.2.1 S.2.2.1 S.2.2.2.1 S.2.2.2.2.2).2.2.1) ((kx_fo (kx_tc S.2.1 S.2.2.1 (nI (i - 1)) S.2.2.2.2.2) (nI i) S.2.1 S.2.2.1 S.2.2.2.1 S.2.2.2.2.2).2.2.2) T (S.2.2.2.2.1 - 1) ((kx_fo (kx_tc S.2.1 S.2.2.1 (nI (i - 1)) S.2.2.2.2.2) (nI i) S.2.1 S.2.2.1 S.2.2.2.1 S.2.2.2.2.2).1) wtc wia off) := hD
      have hP : va_P (dC, dI) vwCl (wX0 cA h0 q0 q1 q2 q3 q4 q5 w ce ((kx_fd S i).1) ((kx_fd S i).2.1) ((kx_fd S i).2.2.1) ((kx_fd S i).2.2.2.1) T ((kx_fd S i).2.2.2.2.1) ((kx_fd S i).2.2.2.2.2) wtc wia off) H := by exact hP
      have hD : va_D A (wX0 cA h0 q0 q1 q2 q3 q4 q5 w ce ((kx_fd S i).1) ((kx_fd S i).2.1) ((kx_fd S i).2.2.1) ((kx_fd S i).2.2.2.1) T ((kx_fd S i).2.2.2.2.1) ((kx_fd S i).2.2.2.2.2) wtc wia off) := by exact hD
      refine lv_iinc (v := (nI (i - 1))) (lv' := [(2, .int (nI (i - 1))), (0, .ref h0), (1, .int (nI (kx_inn nm n - 1)))]) hx hb dX0_commit_26 hl (k := 2) rfl (kv_dec _ (by decide) (by omega)) (by decide) rfl (fun ls hl => ?_)
      refine lv_goto (tgt := 16) hx hb dX0_commit_29 (by decide) ?_
      exact ih (i - 1) (kx_fd S i) (by omega) (by omega) (by show S.2.2.2.2.1 - 1 = _; omega) (Nat.le_trans (kx_fd_z S i) hzS) (by rw [← he, show i - 1 + 1 = i by omega, kx_cm, if_neg (by omega)]) _ _ _ hP hD hS (lv_sub hl [1, 2, 0] rfl)
  exact lp (n - kx_inn nm n) (n - 1) (nm, tl, tc, tw, n, z) (by omega) (by omega) (by show n = _; omega) hz (by rw [show n - 1 + 1 = n by omega]) _ _ _ hP hD hS (lv_sub hl [2, 1, 0] rfl)
set_option maxHeartbeats 4000000 in
set_option maxRecDepth 100000 in
/-- NestCells.abort  -/
theorem c_X0_abort (l : Launch) (dC : Nat → ClassId) (dI : Nat → Nat → Nat) (cA : ClassId) (h0 q0 q1 q2 q3 q4 q5 : Nat) (w ce nm tl tc tw : Nat → Int32) (T n z : Nat) (wtc wia off : Int32)  (ho : off = 0) (hT : 0 < T) (hT8 : T ≤ 8) (hz : z ≤ 60) (hn : n ≤ 88) (hj : 1 ≤ kx_inn nm n) (htc : ∀ t, t < z → ∃ i : Nat, i < 32 ∧ tc t = nI i) : kMi l yX0_abort wsX0_abort ({ frames := 2, cells := 0, slots := 0, locals := 40 }) dC dI [(cA, .int)] (wX0 cA h0 q0 q1 q2 q3 q4 q5 w ce nm tl tc tw T n z wtc wia off) [.ref h0] (nI ((kx_gb tl tc tw (nI (kx_inn nm n - 1)) z ce 0).2.2)) (wX0 cA h0 q0 q1 q2 q3 q4 q5 w ((kx_gb tl tc tw (nI (kx_inn nm n - 1)) z ce 0).2.1) nm tl tc tw (T - 1) (kx_inn nm n - 1) ((kx_gb tl tc tw (nI (kx_inn nm n - 1)) z ce 0).1) wtc wia off) := by
  refine kMi_of (cc := cX0_abort) (maxL := 2) (ret := (some .int)) (by decide) rfl (Nat.le_of_ble_eq_true rfl) ?_
  intro p e s m below meth c A ls hx hb hml hr hts hown hlocks hA hP hK hD hS hl
  have hin : ∀ w ∈ u_ws RX0 TX0 12, w ∈ wsX0_abort := by decide +kernel
  have hl : lv_has ls 2 [(0, .ref h0)] := hl
  refine lv_aload_n hx hb dX0_abort_0 rfl (lv_at hl 0 rfl) ?_
  refine kv_Vv (Xr := []) (n := 0) (c_X0_needTransaction l dC dI cA h0 q0 q1 q2 q3 q4 q5 w ce nm tl tc tw T n z wtc wia off  ho hT hT8) hx hb hml hown hts gX0_abort_X0_needTransaction rfl ⟨rfl, rfl⟩ (by decide +kernel) rfl ⟨Nat.le_of_ble_eq_true rfl, Nat.le_of_ble_eq_true rfl⟩ hK hP hD hS hA [0] [0, 1, 2, 3, 4, 5, 6] [] rfl rfl rfl (by decide) (by decide) (q0 := 0) rfl rfl rfl (by decide) hl.1 rfl (Nat.le_of_ble_eq_true rfl) dX0_abort_1 ⟨Nat.zero_le _, Nat.zero_le _⟩ (fun H locs hP hD hS => ?_)
  have hP : va_P (dC, dI) vwCl (wX0 cA h0 q0 q1 q2 q3 q4 q5 w ce nm tl tc tw T n z wtc wia off) H := hP
  have hD : va_D A (wX0 cA h0 q0 q1 q2 q3 q4 q5 w ce nm tl tc tw T n z wtc wia off) := hD
  refine lv_aload_n hx hb dX0_abort_4 rfl (lv_at hl 0 rfl) ?_
  refine lv_aload_n hx hb dX0_abort_5 rfl (lv_at hl 0 rfl) ?_
  refine kv_Vi (Xr := []) (n := 0) (c_X0_innermostLevel l dC dI cA h0 q0 q1 q2 q3 q4 q5 w ce nm tl tc tw T n z wtc wia off  (by omega)) hx hb hml hown hts gX0_abort_X0_innermostLevel rfl ⟨rfl, rfl⟩ (by decide +kernel) rfl ⟨Nat.le_of_ble_eq_true rfl, Nat.le_of_ble_eq_true rfl⟩ hK hP hD hS hA [0] [0, 1, 2, 3, 4, 5, 6] [] rfl rfl rfl (by decide) (by decide) (q0 := 0) rfl rfl rfl (by decide) hl.1 rfl (Nat.le_of_ble_eq_true rfl) dX0_abort_6 ⟨Nat.zero_le _, Nat.zero_le _⟩ (fun H locs hP hD hS => ?_)
  have hP : va_P (dC, dI) vwCl (wX0 cA h0 q0 q1 q2 q3 q4 q5 w ce nm tl tc tw T n z wtc wia off) H := hP
  have hD : va_D A (wX0 cA h0 q0 q1 q2 q3 q4 q5 w ce nm tl tc tw T n z wtc wia off) := hD
  refine kv_top (w := .int (nI (kx_inn nm n - 1))) (by rw [← pk_sub hj]) ?_
  refine kv_Vi (Xr := []) (n := 1) (c_X0_goBack l dC dI cA h0 q0 q1 q2 q3 q4 q5 w ce nm tl tc tw T n z wtc wia off (kx_inn nm n - 1) hz htc) hx hb hml hown hts gX0_abort_X0_goBack rfl ⟨rfl, rfl⟩ (by decide +kernel) rfl ⟨Nat.le_of_ble_eq_true rfl, Nat.le_of_ble_eq_true rfl⟩ hK hP hD hS hA [0] [0, 1, 2, 3, 4, 5, 6] [] rfl rfl rfl (by decide) (by decide) (q0 := 0) rfl rfl rfl (by decide) hl.1 rfl (Nat.le_of_ble_eq_true rfl) dX0_abort_9 ⟨Nat.zero_le _, Nat.zero_le _⟩ (fun H locs hP hD hS => ?_)
  have hP : va_P (dC, dI) vwCl (wX0 cA h0 q0 q1 q2 q3 q4 q5 w ((kx_gb tl tc tw (nI (kx_inn nm n - 1)) z ce 0).2.1) nm tl tc tw T (kx_inn nm n - 1) ((kx_gb tl tc tw (nI (kx_inn nm n - 1)) z ce 0).1) wtc wia off) H := hP
  have hD : va_D A (wX0 cA h0 q0 q1 q2 q3 q4 q5 w ((kx_gb tl tc tw (nI (kx_inn nm n - 1)) z ce 0).2.1) nm tl tc tw T (kx_inn nm n - 1) ((kx_gb tl tc tw (nI (kx_inn nm n - 1)) z ce 0).1) wtc wia off) := hD
  refine lv_istore_n (lv' := [(1, .int (nI ((kx_gb tl tc tw (nI (kx_inn nm n - 1)) z ce 0).2.2))), (0, .ref h0)]) hx hb dX0_abort_12 rfl hl (by decide) rfl (fun ls hl => ?_)
  refine lv_aload_n hx hb dX0_abort_13 rfl (lv_at hl 1 rfl) ?_
  refine lv_dup hx hb dX0_abort_14 rfl ?_
  refine va_get (D := (dC, dI)) (ci := 0) (v := .int (nI T)) (C := RX0) (T := TX0) (N := 12) hx hb hts hin hown hK hP 0 rfl rfl 6 (by decide) (hts (.fieldLink RX0 51 "NestCells" "transactions" "I") (by decide +kernel)) (fun _ h9 => h9) rfl dX0_abort_15 ?_
  refine lv_iconst (v := (nI 1)) hx hb dX0_abort_18 (by decide) ?_
  refine kv_subE (d := T - 1) hx hb (by omega) dX0_abort_19 ?_
  refine va_put (D := (dC, dI)) (ci := 0) (v := .int (nI (T - 1))) (ty := .int) (C := RX0) (T := TX0) (N := 12) hx hb hts hin tyX0 tyX0_ok nmX0 hown hK hP hD hS 0 rfl rfl 6 (by decide) (hts (.fieldLink RX0 51 "NestCells" "transactions" "I") (by decide +kernel)) (fun _ h9 => h9) rfl (by decide +kernel) rfl rfl (Nat.le_of_ble_eq_true rfl) dX0_abort_20 (fun H locs hP hD hS => ?_)
  have hP : va_P (dC, dI) vwCl (wX0 cA h0 q0 q1 q2 q3 q4 q5 w ((kx_gb tl tc tw (nI (kx_inn nm n - 1)) z ce 0).2.1) nm tl tc tw (T - 1) (kx_inn nm n - 1) ((kx_gb tl tc tw (nI (kx_inn nm n - 1)) z ce 0).1) wtc wia off) H := hP
  have hD : va_D A (wX0 cA h0 q0 q1 q2 q3 q4 q5 w ((kx_gb tl tc tw (nI (kx_inn nm n - 1)) z ce 0).2.1) nm tl tc tw (T - 1) (kx_inn nm n - 1) ((kx_gb tl tc tw (nI (kx_inn nm n - 1)) z ce 0).1) wtc wia off) := hD
  refine lv_iload_n hx hb dX0_abort_23 rfl (lv_at hl 0 rfl) ?_
  exact kMi_ret hx hb hr hlocks hP hK hD hS dX0_abort_24 rfl rfl
set_option maxHeartbeats 4000000 in
set_option maxRecDepth 100000 in
/-- NestCells.point_f  -/
theorem c_X0_point_f (l : Launch) (dC : Nat → ClassId) (dI : Nat → Nat → Nat) (cA : ClassId) (h0 q0 q1 q2 q3 q4 q5 : Nat) (w ce nm tl tc tw : Nat → Int32) (T n z : Nat) (wtc wia off : Int32) (name : Nat) (hnm : name < 10) (ho : off = 0) (hT : 0 < T) (hT8 : T ≤ 8) (hz : z ≤ 60) (hn : n ≤ 88) (hpl : 2 ≤ kx_pl nm (nI name) (kx_inn nm n) n) : kMi l yX0_point wsX0_point ({ frames := 2, cells := 0, slots := 0, locals := 47 }) dC dI [(cA, .int)] (wX0 cA h0 q0 q1 q2 q3 q4 q5 w ce nm tl tc tw T n z wtc wia off) [.ref h0, .int (nI name)] (nI ((kx_fd (nm, tl, tc, tw, n, z) (kx_pl nm (nI name) (kx_inn nm n) n - 1)).2.2.2.2.1 + 1 - kx_inn (upd (kx_fd (nm, tl, tc, tw, n, z) (kx_pl nm (nI name) (kx_inn nm n) n - 1)).1 (kx_fd (nm, tl, tc, tw, n, z) (kx_pl nm (nI name) (kx_inn nm n) n - 1)).2.2.2.2.1 (nI name)) ((kx_fd (nm, tl, tc, tw, n, z) (kx_pl nm (nI name) (kx_inn nm n) n - 1)).2.2.2.2.1 + 1))) (wX0 cA h0 q0 q1 q2 q3 q4 q5 w ce (upd (kx_fd (nm, tl, tc, tw, n, z) (kx_pl nm (nI name) (kx_inn nm n) n - 1)).1 (kx_fd (nm, tl, tc, tw, n, z) (kx_pl nm (nI name) (kx_inn nm n) n - 1)).2.2.2.2.1 (nI name)) ((kx_fd (nm, tl, tc, tw, n, z) (kx_pl nm (nI name) (kx_inn nm n) n - 1)).2.1) ((kx_fd (nm, tl, tc, tw, n, z) (kx_pl nm (nI name) (kx_inn nm n) n - 1)).2.2.1) ((kx_fd (nm, tl, tc, tw, n, z) (kx_pl nm (nI name) (kx_inn nm n) n - 1)).2.2.2.1) T ((kx_fd (nm, tl, tc, tw, n, z) (kx_pl nm (nI name) (kx_inn nm n) n - 1)).2.2.2.2.1 + 1) ((kx_fd (nm, tl, tc, tw, n, z) (kx_pl nm (nI name) (kx_inn nm n) n - 1)).2.2.2.2.2) wtc wia off) := by
  refine kMi_of (cc := cX0_point) (maxL := 3) (ret := (some .int)) (by decide) rfl (Nat.le_of_ble_eq_true rfl) ?_
  intro p e s m below meth c A ls hx hb hml hr hts hown hlocks hA hP hK hD hS hl
  have hl : lv_has ls 3 [(0, .ref h0), (1, .int (nI name))] := hl
  have hple9 := kx_pl_le nm (nI name) (kx_inn nm n) n
  refine lv_aload_n hx hb dX0_point_0 rfl (lv_at hl 0 rfl) ?_
  refine lv_iload_n hx hb dX0_point_1 rfl (lv_at hl 1 rfl) ?_
  refine kv_Vv (Xr := []) (n := 1) (c_X0_needName l dC dI cA h0 q0 q1 q2 q3 q4 q5 w ce nm tl tc tw T n z wtc wia off name (by omega)) hx hb hml hown hts gX0_point_X0_needName rfl ⟨rfl, rfl⟩ (by decide +kernel) rfl ⟨Nat.le_of_ble_eq_true rfl, Nat.le_of_ble_eq_true rfl⟩ hK hP hD hS hA [0] [0, 1, 2, 3, 4, 5, 6] [] rfl rfl rfl (by decide) (by decide) (q0 := 0) rfl rfl rfl (by decide) hl.1 rfl (Nat.le_of_ble_eq_true rfl) dX0_point_2 ⟨Nat.zero_le _, Nat.zero_le _⟩ (fun H locs hP hD hS => ?_)
  have hP : va_P (dC, dI) vwCl (wX0 cA h0 q0 q1 q2 q3 q4 q5 w ce nm tl tc tw T n z wtc wia off) H := hP
  have hD : va_D A (wX0 cA h0 q0 q1 q2 q3 q4 q5 w ce nm tl tc tw T n z wtc wia off) := hD
  refine lv_aload_n hx hb dX0_point_5 rfl (lv_at hl 0 rfl) ?_
  refine kv_Vv (Xr := []) (n := 0) (c_X0_needTransaction l dC dI cA h0 q0 q1 q2 q3 q4 q5 w ce nm tl tc tw T n z wtc wia off  ho hT hT8) hx hb hml hown hts gX0_point_X0_needTransaction rfl ⟨rfl, rfl⟩ (by decide +kernel) rfl ⟨Nat.le_of_ble_eq_true rfl, Nat.le_of_ble_eq_true rfl⟩ hK hP hD hS hA [0] [0, 1, 2, 3, 4, 5, 6] [] rfl rfl rfl (by decide) (by decide) (q0 := 0) rfl rfl rfl (by decide) hl.1 rfl (Nat.le_of_ble_eq_true rfl) dX0_point_6 ⟨Nat.zero_le _, Nat.zero_le _⟩ (fun H locs hP hD hS => ?_)
  have hP : va_P (dC, dI) vwCl (wX0 cA h0 q0 q1 q2 q3 q4 q5 w ce nm tl tc tw T n z wtc wia off) H := hP
  have hD : va_D A (wX0 cA h0 q0 q1 q2 q3 q4 q5 w ce nm tl tc tw T n z wtc wia off) := hD
  refine lv_aload_n hx hb dX0_point_9 rfl (lv_at hl 0 rfl) ?_
  refine lv_iload_n hx hb dX0_point_10 rfl (lv_at hl 1 rfl) ?_
  refine kv_Vi (Xr := []) (n := 1) (c_X0_pointLevel l dC dI cA h0 q0 q1 q2 q3 q4 q5 w ce nm tl tc tw T n z wtc wia off (nI name) (by omega)) hx hb hml hown hts gX0_point_X0_pointLevel rfl ⟨rfl, rfl⟩ (by decide +kernel) rfl ⟨Nat.le_of_ble_eq_true rfl, Nat.le_of_ble_eq_true rfl⟩ hK hP hD hS hA [0] [0, 1, 2, 3, 4, 5, 6] [] rfl rfl rfl (by decide) (by decide) (q0 := 0) rfl rfl rfl (by decide) hl.1 rfl (Nat.le_of_ble_eq_true rfl) dX0_point_11 ⟨Nat.zero_le _, Nat.zero_le _⟩ (fun H locs hP hD hS => ?_)
  have hP : va_P (dC, dI) vwCl (wX0 cA h0 q0 q1 q2 q3 q4 q5 w ce nm tl tc tw T n z wtc wia off) H := hP
  have hD : va_D A (wX0 cA h0 q0 q1 q2 q3 q4 q5 w ce nm tl tc tw T n z wtc wia off) := hD
  refine lv_istore_n (lv' := [(2, .int (nI (kx_pl nm (nI name) (kx_inn nm n) n) - nI 1)), (0, .ref h0), (1, .int (nI name))]) hx hb dX0_point_14 rfl hl (by decide) rfl (fun ls hl => ?_)
  have hl : lv_has ls 3 [(2, .int (nI (kx_pl nm (nI name) (kx_inn nm n) n - 1))), (0, .ref h0), (1, .int (nI name))] := by rw [← pk_sub (Nat.le_of_succ_le hpl)]; exact hl
  refine lv_iload_n hx hb dX0_point_15 rfl (lv_at hl 0 rfl) ?_
  refine lv_iconst (v := (-1)) hx hb dX0_point_16 (by decide) ?_
  refine lv_icmp_eq (tgt := 25) hx hb dX0_point_17 (by decide) (fun h17_0 => absurd h17_0 (kv_nm1 (by omega))) (fun h17_0 => ?_)
  refine lv_aload_n hx hb dX0_point_20 rfl (lv_at hl 1 rfl) ?_
  refine lv_iload_n hx hb dX0_point_21 rfl (lv_at hl 0 rfl) ?_
  refine kv_Vv (Xr := []) (n := 1) (c_X0_foldLevel l dC dI cA h0 q0 q1 q2 q3 q4 q5 w ce nm tl tc tw T n z wtc wia off (kx_pl nm (nI name) (kx_inn nm n) n - 1) (by omega) (by omega) (by omega) (by omega)) hx hb hml hown hts gX0_point_X0_foldLevel rfl ⟨rfl, rfl⟩ (by decide +kernel) rfl ⟨Nat.le_of_ble_eq_true rfl, Nat.le_of_ble_eq_true rfl⟩ hK hP hD hS hA [0] [0, 1, 2, 3, 4, 5, 6] [] rfl rfl rfl (by decide) (by decide) (q0 := 0) rfl rfl rfl (by decide) hl.1 rfl (Nat.le_of_ble_eq_true rfl) dX0_point_22 ⟨Nat.zero_le _, Nat.zero_le _⟩ (fun H locs hP hD hS => ?_)
  have hP : va_P (dC, dI) vwCl (wX0 cA h0 q0 q1 q2 q3 q4 q5 w ce (kx_sh nm (kx_pl nm (nI name) (kx_inn nm n) n - 1) n) ((kx_fo (kx_tc tl tc (nI ((kx_pl nm (nI name) (kx_inn nm n) n - 1) - 1)) z) (nI (kx_pl nm (nI name) (kx_inn nm n) n - 1)) tl tc tw z).2.1) ((kx_fo (kx_tc tl tc (nI ((kx_pl nm (nI name) (kx_inn nm n) n - 1) - 1)) z) (nI (kx_pl nm (nI name) (kx_inn nm n) n - 1)) tl tc tw z).2.2.1) ((kx_fo (kx_tc tl tc (nI ((kx_pl nm (nI name) (kx_inn nm n) n - 1) - 1)) z) (nI (kx_pl nm (nI name) (kx_inn nm n) n - 1)) tl tc tw z).2.2.2) T (n - 1) ((kx_fo (kx_tc tl tc (nI ((kx_pl nm (nI name) (kx_inn nm n) n - 1) - 1)) z) (nI (kx_pl nm (nI name) (kx_inn nm n) n - 1)) tl tc tw z).1) wtc wia off) H := hP
  have hD : va_D A (wX0 cA h0 q0 q1 q2 q3 q4 q5 w ce (kx_sh nm (kx_pl nm (nI name) (kx_inn nm n) n - 1) n) ((kx_fo (kx_tc tl tc (nI ((kx_pl nm (nI name) (kx_inn nm n) n - 1) - 1)) z) (nI (kx_pl nm (nI name) (kx_inn nm n) n - 1)) tl tc tw z).2.1) ((kx_fo (kx_tc tl tc (nI ((kx_pl nm (nI name) (kx_inn nm n) n - 1) - 1)) z) (nI (kx_pl nm (nI name) (kx_inn nm n) n - 1)) tl tc tw z).2.2.1) ((kx_fo (kx_tc tl tc (nI ((kx_pl nm (nI name) (kx_inn nm n) n - 1) - 1)) z) (nI (kx_pl nm (nI name) (kx_inn nm n) n - 1)) tl tc tw z).2.2.2) T (n - 1) ((kx_fo (kx_tc tl tc (nI ((kx_pl nm (nI name) (kx_inn nm n) n - 1) - 1)) z) (nI (kx_pl nm (nI name) (kx_inn nm n) n - 1)) tl tc tw z).1) wtc wia off) := hD
  have hP : va_P (dC, dI) vwCl (wX0 cA h0 q0 q1 q2 q3 q4 q5 w ce ((kx_fd (nm, tl, tc, tw, n, z) (kx_pl nm (nI name) (kx_inn nm n) n - 1)).1) ((kx_fd (nm, tl, tc, tw, n, z) (kx_pl nm (nI name) (kx_inn nm n) n - 1)).2.1) ((kx_fd (nm, tl, tc, tw, n, z) (kx_pl nm (nI name) (kx_inn nm n) n - 1)).2.2.1) ((kx_fd (nm, tl, tc, tw, n, z) (kx_pl nm (nI name) (kx_inn nm n) n - 1)).2.2.2.1) T ((kx_fd (nm, tl, tc, tw, n, z) (kx_pl nm (nI name) (kx_inn nm n) n - 1)).2.2.2.2.1) ((kx_fd (nm, tl, tc, tw, n, z) (kx_pl nm (nI name) (kx_inn nm n) n - 1)).2.2.2.2.2) wtc wia off) H := by exact hP
  have hD : va_D A (wX0 cA h0 q0 q1 q2 q3 q4 q5 w ce ((kx_fd (nm, tl, tc, tw, n, z) (kx_pl nm (nI name) (kx_inn nm n) n - 1)).1) ((kx_fd (nm, tl, tc, tw, n, z) (kx_pl nm (nI name) (kx_inn nm n) n - 1)).2.1) ((kx_fd (nm, tl, tc, tw, n, z) (kx_pl nm (nI name) (kx_inn nm n) n - 1)).2.2.1) ((kx_fd (nm, tl, tc, tw, n, z) (kx_pl nm (nI name) (kx_inn nm n) n - 1)).2.2.2.1) T ((kx_fd (nm, tl, tc, tw, n, z) (kx_pl nm (nI name) (kx_inn nm n) n - 1)).2.2.2.2.1) ((kx_fd (nm, tl, tc, tw, n, z) (kx_pl nm (nI name) (kx_inn nm n) n - 1)).2.2.2.2.2) wtc wia off) := by exact hD
  have hple := kx_pl_le nm (nI name) (kx_inn nm n) n
  have hfn : (kx_fd (nm, tl, tc, tw, n, z) (kx_pl nm (nI name) (kx_inn nm n) n - 1)).2.2.2.2.1 = n - 1 := rfl
  have hfz := kx_fd_z (nm, tl, tc, tw, n, z) (kx_pl nm (nI name) (kx_inn nm n) n - 1)
  refine lv_aload_n hx hb dX0_point_25 rfl (lv_at hl 1 rfl) ?_
  refine lv_iload_n hx hb dX0_point_26 rfl (lv_at hl 2 rfl) ?_
  refine kv_Vv (Xr := []) (n := 1) (c_X0_openLevel l dC dI cA h0 q0 q1 q2 q3 q4 q5 w ce ((kx_fd (nm, tl, tc, tw, n, z) (kx_pl nm (nI name) (kx_inn nm n) n - 1)).1) ((kx_fd (nm, tl, tc, tw, n, z) (kx_pl nm (nI name) (kx_inn nm n) n - 1)).2.1) ((kx_fd (nm, tl, tc, tw, n, z) (kx_pl nm (nI name) (kx_inn nm n) n - 1)).2.2.1) ((kx_fd (nm, tl, tc, tw, n, z) (kx_pl nm (nI name) (kx_inn nm n) n - 1)).2.2.2.1) T ((kx_fd (nm, tl, tc, tw, n, z) (kx_pl nm (nI name) (kx_inn nm n) n - 1)).2.2.2.2.1) ((kx_fd (nm, tl, tc, tw, n, z) (kx_pl nm (nI name) (kx_inn nm n) n - 1)).2.2.2.2.2) wtc wia off (nI name) (by omega)) hx hb hml hown hts gX0_point_X0_openLevel rfl ⟨rfl, rfl⟩ (by decide +kernel) rfl ⟨Nat.le_of_ble_eq_true rfl, Nat.le_of_ble_eq_true rfl⟩ hK hP hD hS hA [0] [0, 1, 2, 3, 4, 5, 6] [] rfl rfl rfl (by decide) (by decide) (q0 := 0) rfl rfl rfl (by decide) hl.1 rfl (Nat.le_of_ble_eq_true rfl) dX0_point_27 ⟨Nat.zero_le _, Nat.zero_le _⟩ (fun H locs hP hD hS => ?_)
  have hP : va_P (dC, dI) vwCl (wX0 cA h0 q0 q1 q2 q3 q4 q5 w ce (upd ((kx_fd (nm, tl, tc, tw, n, z) (kx_pl nm (nI name) (kx_inn nm n) n - 1)).1) ((kx_fd (nm, tl, tc, tw, n, z) (kx_pl nm (nI name) (kx_inn nm n) n - 1)).2.2.2.2.1) (nI name)) ((kx_fd (nm, tl, tc, tw, n, z) (kx_pl nm (nI name) (kx_inn nm n) n - 1)).2.1) ((kx_fd (nm, tl, tc, tw, n, z) (kx_pl nm (nI name) (kx_inn nm n) n - 1)).2.2.1) ((kx_fd (nm, tl, tc, tw, n, z) (kx_pl nm (nI name) (kx_inn nm n) n - 1)).2.2.2.1) T (((kx_fd (nm, tl, tc, tw, n, z) (kx_pl nm (nI name) (kx_inn nm n) n - 1)).2.2.2.2.1) + 1) ((kx_fd (nm, tl, tc, tw, n, z) (kx_pl nm (nI name) (kx_inn nm n) n - 1)).2.2.2.2.2) wtc wia off) H := hP
  have hD : va_D A (wX0 cA h0 q0 q1 q2 q3 q4 q5 w ce (upd ((kx_fd (nm, tl, tc, tw, n, z) (kx_pl nm (nI name) (kx_inn nm n) n - 1)).1) ((kx_fd (nm, tl, tc, tw, n, z) (kx_pl nm (nI name) (kx_inn nm n) n - 1)).2.2.2.2.1) (nI name)) ((kx_fd (nm, tl, tc, tw, n, z) (kx_pl nm (nI name) (kx_inn nm n) n - 1)).2.1) ((kx_fd (nm, tl, tc, tw, n, z) (kx_pl nm (nI name) (kx_inn nm n) n - 1)).2.2.1) ((kx_fd (nm, tl, tc, tw, n, z) (kx_pl nm (nI name) (kx_inn nm n) n - 1)).2.2.2.1) T (((kx_fd (nm, tl, tc, tw, n, z) (kx_pl nm (nI name) (kx_inn nm n) n - 1)).2.2.2.2.1) + 1) ((kx_fd (nm, tl, tc, tw, n, z) (kx_pl nm (nI name) (kx_inn nm n) n - 1)).2.2.2.2.2) wtc wia off) := hD
  refine lv_aload_n hx hb dX0_point_30 rfl (lv_at hl 1 rfl) ?_
  refine kv_Vi (Xr := []) (n := 0) (c_X0_points l dC dI cA h0 q0 q1 q2 q3 q4 q5 w ce (upd ((kx_fd (nm, tl, tc, tw, n, z) (kx_pl nm (nI name) (kx_inn nm n) n - 1)).1) ((kx_fd (nm, tl, tc, tw, n, z) (kx_pl nm (nI name) (kx_inn nm n) n - 1)).2.2.2.2.1) (nI name)) ((kx_fd (nm, tl, tc, tw, n, z) (kx_pl nm (nI name) (kx_inn nm n) n - 1)).2.1) ((kx_fd (nm, tl, tc, tw, n, z) (kx_pl nm (nI name) (kx_inn nm n) n - 1)).2.2.1) ((kx_fd (nm, tl, tc, tw, n, z) (kx_pl nm (nI name) (kx_inn nm n) n - 1)).2.2.2.1) T (((kx_fd (nm, tl, tc, tw, n, z) (kx_pl nm (nI name) (kx_inn nm n) n - 1)).2.2.2.2.1) + 1) ((kx_fd (nm, tl, tc, tw, n, z) (kx_pl nm (nI name) (kx_inn nm n) n - 1)).2.2.2.2.2) wtc wia off  (by omega)) hx hb hml hown hts gX0_point_X0_points rfl ⟨rfl, rfl⟩ (by decide +kernel) rfl ⟨Nat.le_of_ble_eq_true rfl, Nat.le_of_ble_eq_true rfl⟩ hK hP hD hS hA [0] [0, 1, 2, 3, 4, 5, 6] [] rfl rfl rfl (by decide) (by decide) (q0 := 0) rfl rfl rfl (by decide) hl.1 rfl (Nat.le_of_ble_eq_true rfl) dX0_point_31 ⟨Nat.zero_le _, Nat.zero_le _⟩ (fun H locs hP hD hS => ?_)
  have hP : va_P (dC, dI) vwCl (wX0 cA h0 q0 q1 q2 q3 q4 q5 w ce (upd ((kx_fd (nm, tl, tc, tw, n, z) (kx_pl nm (nI name) (kx_inn nm n) n - 1)).1) ((kx_fd (nm, tl, tc, tw, n, z) (kx_pl nm (nI name) (kx_inn nm n) n - 1)).2.2.2.2.1) (nI name)) ((kx_fd (nm, tl, tc, tw, n, z) (kx_pl nm (nI name) (kx_inn nm n) n - 1)).2.1) ((kx_fd (nm, tl, tc, tw, n, z) (kx_pl nm (nI name) (kx_inn nm n) n - 1)).2.2.1) ((kx_fd (nm, tl, tc, tw, n, z) (kx_pl nm (nI name) (kx_inn nm n) n - 1)).2.2.2.1) T (((kx_fd (nm, tl, tc, tw, n, z) (kx_pl nm (nI name) (kx_inn nm n) n - 1)).2.2.2.2.1) + 1) ((kx_fd (nm, tl, tc, tw, n, z) (kx_pl nm (nI name) (kx_inn nm n) n - 1)).2.2.2.2.2) wtc wia off) H := hP
  have hD : va_D A (wX0 cA h0 q0 q1 q2 q3 q4 q5 w ce (upd ((kx_fd (nm, tl, tc, tw, n, z) (kx_pl nm (nI name) (kx_inn nm n) n - 1)).1) ((kx_fd (nm, tl, tc, tw, n, z) (kx_pl nm (nI name) (kx_inn nm n) n - 1)).2.2.2.2.1) (nI name)) ((kx_fd (nm, tl, tc, tw, n, z) (kx_pl nm (nI name) (kx_inn nm n) n - 1)).2.1) ((kx_fd (nm, tl, tc, tw, n, z) (kx_pl nm (nI name) (kx_inn nm n) n - 1)).2.2.1) ((kx_fd (nm, tl, tc, tw, n, z) (kx_pl nm (nI name) (kx_inn nm n) n - 1)).2.2.2.1) T (((kx_fd (nm, tl, tc, tw, n, z) (kx_pl nm (nI name) (kx_inn nm n) n - 1)).2.2.2.2.1) + 1) ((kx_fd (nm, tl, tc, tw, n, z) (kx_pl nm (nI name) (kx_inn nm n) n - 1)).2.2.2.2.2) wtc wia off) := hD
  exact kMi_ret hx hb hr hlocks hP hK hD hS dX0_point_34 rfl rfl
set_option maxHeartbeats 4000000 in
set_option maxRecDepth 100000 in
/-- NestCells.point_n  -/
theorem c_X0_point_n (l : Launch) (dC : Nat → ClassId) (dI : Nat → Nat → Nat) (cA : ClassId) (h0 q0 q1 q2 q3 q4 q5 : Nat) (w ce nm tl tc tw : Nat → Int32) (T n z : Nat) (wtc wia off : Int32) (name : Nat) (hnm : name < 10) (ho : off = 0) (hT : 0 < T) (hT8 : T ≤ 8) (hz : z ≤ 60) (hn : n < 88) (hpl : kx_pl nm (nI name) (kx_inn nm n) n = 0) : kMi l yX0_point wsX0_point ({ frames := 2, cells := 0, slots := 0, locals := 47 }) dC dI [(cA, .int)] (wX0 cA h0 q0 q1 q2 q3 q4 q5 w ce nm tl tc tw T n z wtc wia off) [.ref h0, .int (nI name)] (nI (n + 1 - kx_inn (upd nm n (nI name)) (n + 1))) (wX0 cA h0 q0 q1 q2 q3 q4 q5 w ce (upd nm n (nI name)) tl tc tw T (n + 1) z wtc wia off) := by
  refine kMi_of (cc := cX0_point) (maxL := 3) (ret := (some .int)) (by decide) rfl (Nat.le_of_ble_eq_true rfl) ?_
  intro p e s m below meth c A ls hx hb hml hr hts hown hlocks hA hP hK hD hS hl
  have hl : lv_has ls 3 [(0, .ref h0), (1, .int (nI name))] := hl
  refine lv_aload_n hx hb dX0_point_0 rfl (lv_at hl 0 rfl) ?_
  refine lv_iload_n hx hb dX0_point_1 rfl (lv_at hl 1 rfl) ?_
  refine kv_Vv (Xr := []) (n := 1) (c_X0_needName l dC dI cA h0 q0 q1 q2 q3 q4 q5 w ce nm tl tc tw T n z wtc wia off name (by omega)) hx hb hml hown hts gX0_point_X0_needName rfl ⟨rfl, rfl⟩ (by decide +kernel) rfl ⟨Nat.le_of_ble_eq_true rfl, Nat.le_of_ble_eq_true rfl⟩ hK hP hD hS hA [0] [0, 1, 2, 3, 4, 5, 6] [] rfl rfl rfl (by decide) (by decide) (q0 := 0) rfl rfl rfl (by decide) hl.1 rfl (Nat.le_of_ble_eq_true rfl) dX0_point_2 ⟨Nat.zero_le _, Nat.zero_le _⟩ (fun H locs hP hD hS => ?_)
  have hP : va_P (dC, dI) vwCl (wX0 cA h0 q0 q1 q2 q3 q4 q5 w ce nm tl tc tw T n z wtc wia off) H := hP
  have hD : va_D A (wX0 cA h0 q0 q1 q2 q3 q4 q5 w ce nm tl tc tw T n z wtc wia off) := hD
  refine lv_aload_n hx hb dX0_point_5 rfl (lv_at hl 0 rfl) ?_
  refine kv_Vv (Xr := []) (n := 0) (c_X0_needTransaction l dC dI cA h0 q0 q1 q2 q3 q4 q5 w ce nm tl tc tw T n z wtc wia off  ho hT hT8) hx hb hml hown hts gX0_point_X0_needTransaction rfl ⟨rfl, rfl⟩ (by decide +kernel) rfl ⟨Nat.le_of_ble_eq_true rfl, Nat.le_of_ble_eq_true rfl⟩ hK hP hD hS hA [0] [0, 1, 2, 3, 4, 5, 6] [] rfl rfl rfl (by decide) (by decide) (q0 := 0) rfl rfl rfl (by decide) hl.1 rfl (Nat.le_of_ble_eq_true rfl) dX0_point_6 ⟨Nat.zero_le _, Nat.zero_le _⟩ (fun H locs hP hD hS => ?_)
  have hP : va_P (dC, dI) vwCl (wX0 cA h0 q0 q1 q2 q3 q4 q5 w ce nm tl tc tw T n z wtc wia off) H := hP
  have hD : va_D A (wX0 cA h0 q0 q1 q2 q3 q4 q5 w ce nm tl tc tw T n z wtc wia off) := hD
  refine lv_aload_n hx hb dX0_point_9 rfl (lv_at hl 0 rfl) ?_
  refine lv_iload_n hx hb dX0_point_10 rfl (lv_at hl 1 rfl) ?_
  refine kv_Vi (Xr := []) (n := 1) (c_X0_pointLevel l dC dI cA h0 q0 q1 q2 q3 q4 q5 w ce nm tl tc tw T n z wtc wia off (nI name) (by omega)) hx hb hml hown hts gX0_point_X0_pointLevel rfl ⟨rfl, rfl⟩ (by decide +kernel) rfl ⟨Nat.le_of_ble_eq_true rfl, Nat.le_of_ble_eq_true rfl⟩ hK hP hD hS hA [0] [0, 1, 2, 3, 4, 5, 6] [] rfl rfl rfl (by decide) (by decide) (q0 := 0) rfl rfl rfl (by decide) hl.1 rfl (Nat.le_of_ble_eq_true rfl) dX0_point_11 ⟨Nat.zero_le _, Nat.zero_le _⟩ (fun H locs hP hD hS => ?_)
  have hP : va_P (dC, dI) vwCl (wX0 cA h0 q0 q1 q2 q3 q4 q5 w ce nm tl tc tw T n z wtc wia off) H := hP
  have hD : va_D A (wX0 cA h0 q0 q1 q2 q3 q4 q5 w ce nm tl tc tw T n z wtc wia off) := hD
  refine lv_istore_n (lv' := [(2, .int (nI (kx_pl nm (nI name) (kx_inn nm n) n) - nI 1)), (0, .ref h0), (1, .int (nI name))]) hx hb dX0_point_14 rfl hl (by decide) rfl (fun ls hl => ?_)
  have hl : lv_has ls 3 [(2, .int (-1)), (0, .ref h0), (1, .int (nI name))] := by rw [hpl] at hl; rw [← kv_m1]; exact hl
  refine lv_iload_n hx hb dX0_point_15 rfl (lv_at hl 0 rfl) ?_
  refine lv_iconst (v := (-1)) hx hb dX0_point_16 (by decide) ?_
  refine lv_icmp_eq (tgt := 25) hx hb dX0_point_17 (by decide) (fun h17_0 => ?_) (fun h17_0 => absurd h17_0 (fun q => q rfl))
  refine lv_aload_n hx hb dX0_point_25 rfl (lv_at hl 1 rfl) ?_
  refine lv_iload_n hx hb dX0_point_26 rfl (lv_at hl 2 rfl) ?_
  refine kv_Vv (Xr := []) (n := 1) (c_X0_openLevel l dC dI cA h0 q0 q1 q2 q3 q4 q5 w ce nm tl tc tw T n z wtc wia off (nI name) (by omega)) hx hb hml hown hts gX0_point_X0_openLevel rfl ⟨rfl, rfl⟩ (by decide +kernel) rfl ⟨Nat.le_of_ble_eq_true rfl, Nat.le_of_ble_eq_true rfl⟩ hK hP hD hS hA [0] [0, 1, 2, 3, 4, 5, 6] [] rfl rfl rfl (by decide) (by decide) (q0 := 0) rfl rfl rfl (by decide) hl.1 rfl (Nat.le_of_ble_eq_true rfl) dX0_point_27 ⟨Nat.zero_le _, Nat.zero_le _⟩ (fun H locs hP hD hS => ?_)
  have hP : va_P (dC, dI) vwCl (wX0 cA h0 q0 q1 q2 q3 q4 q5 w ce (upd nm n (nI name)) tl tc tw T (n + 1) z wtc wia off) H := hP
  have hD : va_D A (wX0 cA h0 q0 q1 q2 q3 q4 q5 w ce (upd nm n (nI name)) tl tc tw T (n + 1) z wtc wia off) := hD
  refine lv_aload_n hx hb dX0_point_30 rfl (lv_at hl 1 rfl) ?_
  refine kv_Vi (Xr := []) (n := 0) (c_X0_points l dC dI cA h0 q0 q1 q2 q3 q4 q5 w ce (upd nm n (nI name)) tl tc tw T (n + 1) z wtc wia off  (by omega)) hx hb hml hown hts gX0_point_X0_points rfl ⟨rfl, rfl⟩ (by decide +kernel) rfl ⟨Nat.le_of_ble_eq_true rfl, Nat.le_of_ble_eq_true rfl⟩ hK hP hD hS hA [0] [0, 1, 2, 3, 4, 5, 6] [] rfl rfl rfl (by decide) (by decide) (q0 := 0) rfl rfl rfl (by decide) hl.1 rfl (Nat.le_of_ble_eq_true rfl) dX0_point_31 ⟨Nat.zero_le _, Nat.zero_le _⟩ (fun H locs hP hD hS => ?_)
  have hP : va_P (dC, dI) vwCl (wX0 cA h0 q0 q1 q2 q3 q4 q5 w ce (upd nm n (nI name)) tl tc tw T (n + 1) z wtc wia off) H := hP
  have hD : va_D A (wX0 cA h0 q0 q1 q2 q3 q4 q5 w ce (upd nm n (nI name)) tl tc tw T (n + 1) z wtc wia off) := hD
  exact kMi_ret hx hb hr hlocks hP hK hD hS dX0_point_34 rfl rfl
set_option maxHeartbeats 4000000 in
set_option maxRecDepth 100000 in
/-- NestCells.back  -/
theorem c_X0_back (l : Launch) (dC : Nat → ClassId) (dI : Nat → Nat → Nat) (cA : ClassId) (h0 q0 q1 q2 q3 q4 q5 : Nat) (w ce nm tl tc tw : Nat → Int32) (T n z : Nat) (wtc wia off : Int32) (name : Nat) (hnm : name < 10) (ho : off = 0) (hT : 0 < T) (hT8 : T ≤ 8) (hz : z ≤ 60) (hn : n ≤ 88) (htc : ∀ t, t < z → ∃ i : Nat, i < 32 ∧ tc t = nI i) (hpl : 1 ≤ kx_pl nm (nI name) (kx_inn nm n) n) : kMi l yX0_back wsX0_back ({ frames := 3, cells := 0, slots := 0, locals := 66 }) dC dI [(cA, .int)] (wX0 cA h0 q0 q1 q2 q3 q4 q5 w ce nm tl tc tw T n z wtc wia off) [.ref h0, .int (nI name)] (nI ((kx_gb tl tc tw (nI (kx_pl nm (nI name) (kx_inn nm n) n - 1)) z ce 0).2.2)) (wX0 cA h0 q0 q1 q2 q3 q4 q5 w ((kx_gb tl tc tw (nI (kx_pl nm (nI name) (kx_inn nm n) n - 1)) z ce 0).2.1) (upd nm (kx_pl nm (nI name) (kx_inn nm n) n - 1) (nI name)) tl tc tw T (kx_pl nm (nI name) (kx_inn nm n) n - 1 + 1) ((kx_gb tl tc tw (nI (kx_pl nm (nI name) (kx_inn nm n) n - 1)) z ce 0).1) wtc wia off) := by
  refine kMi_of (cc := cX0_back) (maxL := 3) (ret := (some .int)) (by decide) rfl (Nat.le_of_ble_eq_true rfl) ?_
  intro p e s m below meth c A ls hx hb hml hr hts hown hlocks hA hP hK hD hS hl
  have hl : lv_has ls 3 [(0, .ref h0), (1, .int (nI name))] := hl
  have hple9 := kx_pl_le nm (nI name) (kx_inn nm n) n
  refine lv_aload_n hx hb dX0_back_0 rfl (lv_at hl 0 rfl) ?_
  refine lv_iload_n hx hb dX0_back_1 rfl (lv_at hl 1 rfl) ?_
  refine kv_Vv (Xr := []) (n := 1) (c_X0_needName l dC dI cA h0 q0 q1 q2 q3 q4 q5 w ce nm tl tc tw T n z wtc wia off name (by omega)) hx hb hml hown hts gX0_back_X0_needName rfl ⟨rfl, rfl⟩ (by decide +kernel) rfl ⟨Nat.le_of_ble_eq_true rfl, Nat.le_of_ble_eq_true rfl⟩ hK hP hD hS hA [0] [0, 1, 2, 3, 4, 5, 6] [] rfl rfl rfl (by decide) (by decide) (q0 := 0) rfl rfl rfl (by decide) hl.1 rfl (Nat.le_of_ble_eq_true rfl) dX0_back_2 ⟨Nat.zero_le _, Nat.zero_le _⟩ (fun H locs hP hD hS => ?_)
  have hP : va_P (dC, dI) vwCl (wX0 cA h0 q0 q1 q2 q3 q4 q5 w ce nm tl tc tw T n z wtc wia off) H := hP
  have hD : va_D A (wX0 cA h0 q0 q1 q2 q3 q4 q5 w ce nm tl tc tw T n z wtc wia off) := hD
  refine lv_aload_n hx hb dX0_back_5 rfl (lv_at hl 0 rfl) ?_
  refine kv_Vv (Xr := []) (n := 0) (c_X0_needTransaction l dC dI cA h0 q0 q1 q2 q3 q4 q5 w ce nm tl tc tw T n z wtc wia off  ho hT hT8) hx hb hml hown hts gX0_back_X0_needTransaction rfl ⟨rfl, rfl⟩ (by decide +kernel) rfl ⟨Nat.le_of_ble_eq_true rfl, Nat.le_of_ble_eq_true rfl⟩ hK hP hD hS hA [0] [0, 1, 2, 3, 4, 5, 6] [] rfl rfl rfl (by decide) (by decide) (q0 := 0) rfl rfl rfl (by decide) hl.1 rfl (Nat.le_of_ble_eq_true rfl) dX0_back_6 ⟨Nat.zero_le _, Nat.zero_le _⟩ (fun H locs hP hD hS => ?_)
  have hP : va_P (dC, dI) vwCl (wX0 cA h0 q0 q1 q2 q3 q4 q5 w ce nm tl tc tw T n z wtc wia off) H := hP
  have hD : va_D A (wX0 cA h0 q0 q1 q2 q3 q4 q5 w ce nm tl tc tw T n z wtc wia off) := hD
  refine lv_aload_n hx hb dX0_back_9 rfl (lv_at hl 0 rfl) ?_
  refine lv_aload_n hx hb dX0_back_10 rfl (lv_at hl 0 rfl) ?_
  refine lv_iload_n hx hb dX0_back_11 rfl (lv_at hl 1 rfl) ?_
  refine kv_Vi (Xr := []) (n := 1) (c_X0_needPoint l dC dI cA h0 q0 q1 q2 q3 q4 q5 w ce nm tl tc tw T n z wtc wia off name hn hpl) hx hb hml hown hts gX0_back_X0_needPoint rfl ⟨rfl, rfl⟩ (by decide +kernel) rfl ⟨Nat.le_of_ble_eq_true rfl, Nat.le_of_ble_eq_true rfl⟩ hK hP hD hS hA [0] [0, 1, 2, 3, 4, 5, 6] [] rfl rfl rfl (by decide) (by decide) (q0 := 0) rfl rfl rfl (by decide) hl.1 rfl (Nat.le_of_ble_eq_true rfl) dX0_back_12 ⟨Nat.zero_le _, Nat.zero_le _⟩ (fun H locs hP hD hS => ?_)
  have hP : va_P (dC, dI) vwCl (wX0 cA h0 q0 q1 q2 q3 q4 q5 w ce nm tl tc tw T n z wtc wia off) H := hP
  have hD : va_D A (wX0 cA h0 q0 q1 q2 q3 q4 q5 w ce nm tl tc tw T n z wtc wia off) := hD
  refine kv_Vi (Xr := []) (n := 1) (c_X0_goBack l dC dI cA h0 q0 q1 q2 q3 q4 q5 w ce nm tl tc tw T n z wtc wia off (kx_pl nm (nI name) (kx_inn nm n) n - 1) hz htc) hx hb hml hown hts gX0_back_X0_goBack rfl ⟨rfl, rfl⟩ (by decide +kernel) rfl ⟨Nat.le_of_ble_eq_true rfl, Nat.le_of_ble_eq_true rfl⟩ hK hP hD hS hA [0] [0, 1, 2, 3, 4, 5, 6] [] rfl rfl rfl (by decide) (by decide) (q0 := 0) rfl rfl rfl (by decide) hl.1 rfl (Nat.le_of_ble_eq_true rfl) dX0_back_15 ⟨Nat.zero_le _, Nat.zero_le _⟩ (fun H locs hP hD hS => ?_)
  have hP : va_P (dC, dI) vwCl (wX0 cA h0 q0 q1 q2 q3 q4 q5 w ((kx_gb tl tc tw (nI (kx_pl nm (nI name) (kx_inn nm n) n - 1)) z ce 0).2.1) nm tl tc tw T (kx_pl nm (nI name) (kx_inn nm n) n - 1) ((kx_gb tl tc tw (nI (kx_pl nm (nI name) (kx_inn nm n) n - 1)) z ce 0).1) wtc wia off) H := hP
  have hD : va_D A (wX0 cA h0 q0 q1 q2 q3 q4 q5 w ((kx_gb tl tc tw (nI (kx_pl nm (nI name) (kx_inn nm n) n - 1)) z ce 0).2.1) nm tl tc tw T (kx_pl nm (nI name) (kx_inn nm n) n - 1) ((kx_gb tl tc tw (nI (kx_pl nm (nI name) (kx_inn nm n) n - 1)) z ce 0).1) wtc wia off) := hD
  refine lv_istore_n (lv' := [(2, .int (nI ((kx_gb tl tc tw (nI (kx_pl nm (nI name) (kx_inn nm n) n - 1)) z ce 0).2.2))), (0, .ref h0), (1, .int (nI name))]) hx hb dX0_back_18 rfl hl (by decide) rfl (fun ls hl => ?_)
  refine lv_aload_n hx hb dX0_back_19 rfl (lv_at hl 1 rfl) ?_
  refine lv_iload_n hx hb dX0_back_20 rfl (lv_at hl 2 rfl) ?_
  refine kv_Vv (Xr := []) (n := 1) (c_X0_openLevel l dC dI cA h0 q0 q1 q2 q3 q4 q5 w ((kx_gb tl tc tw (nI (kx_pl nm (nI name) (kx_inn nm n) n - 1)) z ce 0).2.1) nm tl tc tw T (kx_pl nm (nI name) (kx_inn nm n) n - 1) ((kx_gb tl tc tw (nI (kx_pl nm (nI name) (kx_inn nm n) n - 1)) z ce 0).1) wtc wia off (nI name) (by omega)) hx hb hml hown hts gX0_back_X0_openLevel rfl ⟨rfl, rfl⟩ (by decide +kernel) rfl ⟨Nat.le_of_ble_eq_true rfl, Nat.le_of_ble_eq_true rfl⟩ hK hP hD hS hA [0] [0, 1, 2, 3, 4, 5, 6] [] rfl rfl rfl (by decide) (by decide) (q0 := 0) rfl rfl rfl (by decide) hl.1 rfl (Nat.le_of_ble_eq_true rfl) dX0_back_21 ⟨Nat.zero_le _, Nat.zero_le _⟩ (fun H locs hP hD hS => ?_)
  have hP : va_P (dC, dI) vwCl (wX0 cA h0 q0 q1 q2 q3 q4 q5 w ((kx_gb tl tc tw (nI (kx_pl nm (nI name) (kx_inn nm n) n - 1)) z ce 0).2.1) (upd nm (kx_pl nm (nI name) (kx_inn nm n) n - 1) (nI name)) tl tc tw T ((kx_pl nm (nI name) (kx_inn nm n) n - 1) + 1) ((kx_gb tl tc tw (nI (kx_pl nm (nI name) (kx_inn nm n) n - 1)) z ce 0).1) wtc wia off) H := hP
  have hD : va_D A (wX0 cA h0 q0 q1 q2 q3 q4 q5 w ((kx_gb tl tc tw (nI (kx_pl nm (nI name) (kx_inn nm n) n - 1)) z ce 0).2.1) (upd nm (kx_pl nm (nI name) (kx_inn nm n) n - 1) (nI name)) tl tc tw T ((kx_pl nm (nI name) (kx_inn nm n) n - 1) + 1) ((kx_gb tl tc tw (nI (kx_pl nm (nI name) (kx_inn nm n) n - 1)) z ce 0).1) wtc wia off) := hD
  refine lv_iload_n hx hb dX0_back_24 rfl (lv_at hl 0 rfl) ?_
  exact kMi_ret hx hb hr hlocks hP hK hD hS dX0_back_25 rfl rfl
set_option maxHeartbeats 4000000 in
set_option maxRecDepth 100000 in
/-- NestCells.release  -/
theorem c_X0_release (l : Launch) (dC : Nat → ClassId) (dI : Nat → Nat → Nat) (cA : ClassId) (h0 q0 q1 q2 q3 q4 q5 : Nat) (w ce nm tl tc tw : Nat → Int32) (T n z : Nat) (wtc wia off : Int32) (name : Nat) (hnm : name < 10) (ho : off = 0) (hT : 0 < T) (hT8 : T ≤ 8) (hz : z ≤ 60) (hn : n ≤ 88) (hpl : 2 ≤ kx_pl nm (nI name) (kx_inn nm n) n) : kMi l yX0_release wsX0_release ({ frames := 3, cells := 0, slots := 0, locals := 66 }) dC dI [(cA, .int)] (wX0 cA h0 q0 q1 q2 q3 q4 q5 w ce nm tl tc tw T n z wtc wia off) [.ref h0, .int (nI name)] (nI ((kx_fd (nm, tl, tc, tw, n, z) (kx_pl nm (nI name) (kx_inn nm n) n - 1)).2.2.2.2.1 - kx_inn (kx_fd (nm, tl, tc, tw, n, z) (kx_pl nm (nI name) (kx_inn nm n) n - 1)).1 (kx_fd (nm, tl, tc, tw, n, z) (kx_pl nm (nI name) (kx_inn nm n) n - 1)).2.2.2.2.1)) (wX0 cA h0 q0 q1 q2 q3 q4 q5 w ce ((kx_fd (nm, tl, tc, tw, n, z) (kx_pl nm (nI name) (kx_inn nm n) n - 1)).1) ((kx_fd (nm, tl, tc, tw, n, z) (kx_pl nm (nI name) (kx_inn nm n) n - 1)).2.1) ((kx_fd (nm, tl, tc, tw, n, z) (kx_pl nm (nI name) (kx_inn nm n) n - 1)).2.2.1) ((kx_fd (nm, tl, tc, tw, n, z) (kx_pl nm (nI name) (kx_inn nm n) n - 1)).2.2.2.1) T ((kx_fd (nm, tl, tc, tw, n, z) (kx_pl nm (nI name) (kx_inn nm n) n - 1)).2.2.2.2.1) ((kx_fd (nm, tl, tc, tw, n, z) (kx_pl nm (nI name) (kx_inn nm n) n - 1)).2.2.2.2.2) wtc wia off) := by
  refine kMi_of (cc := cX0_release) (maxL := 2) (ret := (some .int)) (by decide) rfl (Nat.le_of_ble_eq_true rfl) ?_
  intro p e s m below meth c A ls hx hb hml hr hts hown hlocks hA hP hK hD hS hl
  have hl : lv_has ls 2 [(0, .ref h0), (1, .int (nI name))] := hl
  have hple9 := kx_pl_le nm (nI name) (kx_inn nm n) n
  refine lv_aload_n hx hb dX0_release_0 rfl (lv_at hl 0 rfl) ?_
  refine lv_iload_n hx hb dX0_release_1 rfl (lv_at hl 1 rfl) ?_
  refine kv_Vv (Xr := []) (n := 1) (c_X0_needName l dC dI cA h0 q0 q1 q2 q3 q4 q5 w ce nm tl tc tw T n z wtc wia off name (by omega)) hx hb hml hown hts gX0_release_X0_needName rfl ⟨rfl, rfl⟩ (by decide +kernel) rfl ⟨Nat.le_of_ble_eq_true rfl, Nat.le_of_ble_eq_true rfl⟩ hK hP hD hS hA [0] [0, 1, 2, 3, 4, 5, 6] [] rfl rfl rfl (by decide) (by decide) (q0 := 0) rfl rfl rfl (by decide) hl.1 rfl (Nat.le_of_ble_eq_true rfl) dX0_release_2 ⟨Nat.zero_le _, Nat.zero_le _⟩ (fun H locs hP hD hS => ?_)
  have hP : va_P (dC, dI) vwCl (wX0 cA h0 q0 q1 q2 q3 q4 q5 w ce nm tl tc tw T n z wtc wia off) H := hP
  have hD : va_D A (wX0 cA h0 q0 q1 q2 q3 q4 q5 w ce nm tl tc tw T n z wtc wia off) := hD
  refine lv_aload_n hx hb dX0_release_5 rfl (lv_at hl 0 rfl) ?_
  refine kv_Vv (Xr := []) (n := 0) (c_X0_needTransaction l dC dI cA h0 q0 q1 q2 q3 q4 q5 w ce nm tl tc tw T n z wtc wia off  ho hT hT8) hx hb hml hown hts gX0_release_X0_needTransaction rfl ⟨rfl, rfl⟩ (by decide +kernel) rfl ⟨Nat.le_of_ble_eq_true rfl, Nat.le_of_ble_eq_true rfl⟩ hK hP hD hS hA [0] [0, 1, 2, 3, 4, 5, 6] [] rfl rfl rfl (by decide) (by decide) (q0 := 0) rfl rfl rfl (by decide) hl.1 rfl (Nat.le_of_ble_eq_true rfl) dX0_release_6 ⟨Nat.zero_le _, Nat.zero_le _⟩ (fun H locs hP hD hS => ?_)
  have hP : va_P (dC, dI) vwCl (wX0 cA h0 q0 q1 q2 q3 q4 q5 w ce nm tl tc tw T n z wtc wia off) H := hP
  have hD : va_D A (wX0 cA h0 q0 q1 q2 q3 q4 q5 w ce nm tl tc tw T n z wtc wia off) := hD
  refine lv_aload_n hx hb dX0_release_9 rfl (lv_at hl 0 rfl) ?_
  refine lv_aload_n hx hb dX0_release_10 rfl (lv_at hl 0 rfl) ?_
  refine lv_iload_n hx hb dX0_release_11 rfl (lv_at hl 1 rfl) ?_
  refine kv_Vi (Xr := []) (n := 1) (c_X0_needPoint l dC dI cA h0 q0 q1 q2 q3 q4 q5 w ce nm tl tc tw T n z wtc wia off name hn (by omega)) hx hb hml hown hts gX0_release_X0_needPoint rfl ⟨rfl, rfl⟩ (by decide +kernel) rfl ⟨Nat.le_of_ble_eq_true rfl, Nat.le_of_ble_eq_true rfl⟩ hK hP hD hS hA [0] [0, 1, 2, 3, 4, 5, 6] [] rfl rfl rfl (by decide) (by decide) (q0 := 0) rfl rfl rfl (by decide) hl.1 rfl (Nat.le_of_ble_eq_true rfl) dX0_release_12 ⟨Nat.zero_le _, Nat.zero_le _⟩ (fun H locs hP hD hS => ?_)
  have hP : va_P (dC, dI) vwCl (wX0 cA h0 q0 q1 q2 q3 q4 q5 w ce nm tl tc tw T n z wtc wia off) H := hP
  have hD : va_D A (wX0 cA h0 q0 q1 q2 q3 q4 q5 w ce nm tl tc tw T n z wtc wia off) := hD
  refine kv_Vv (Xr := []) (n := 1) (c_X0_foldLevel l dC dI cA h0 q0 q1 q2 q3 q4 q5 w ce nm tl tc tw T n z wtc wia off (kx_pl nm (nI name) (kx_inn nm n) n - 1) (by omega) (by omega) (by omega) (by omega)) hx hb hml hown hts gX0_release_X0_foldLevel rfl ⟨rfl, rfl⟩ (by decide +kernel) rfl ⟨Nat.le_of_ble_eq_true rfl, Nat.le_of_ble_eq_true rfl⟩ hK hP hD hS hA [0] [0, 1, 2, 3, 4, 5, 6] [] rfl rfl rfl (by decide) (by decide) (q0 := 0) rfl rfl rfl (by decide) hl.1 rfl (Nat.le_of_ble_eq_true rfl) dX0_release_15 ⟨Nat.zero_le _, Nat.zero_le _⟩ (fun H locs hP hD hS => ?_)
  have hP : va_P (dC, dI) vwCl (wX0 cA h0 q0 q1 q2 q3 q4 q5 w ce (kx_sh nm (kx_pl nm (nI name) (kx_inn nm n) n - 1) n) ((kx_fo (kx_tc tl tc (nI ((kx_pl nm (nI name) (kx_inn nm n) n - 1) - 1)) z) (nI (kx_pl nm (nI name) (kx_inn nm n) n - 1)) tl tc tw z).2.1) ((kx_fo (kx_tc tl tc (nI ((kx_pl nm (nI name) (kx_inn nm n) n - 1) - 1)) z) (nI (kx_pl nm (nI name) (kx_inn nm n) n - 1)) tl tc tw z).2.2.1) ((kx_fo (kx_tc tl tc (nI ((kx_pl nm (nI name) (kx_inn nm n) n - 1) - 1)) z) (nI (kx_pl nm (nI name) (kx_inn nm n) n - 1)) tl tc tw z).2.2.2) T (n - 1) ((kx_fo (kx_tc tl tc (nI ((kx_pl nm (nI name) (kx_inn nm n) n - 1) - 1)) z) (nI (kx_pl nm (nI name) (kx_inn nm n) n - 1)) tl tc tw z).1) wtc wia off) H := hP
  have hD : va_D A (wX0 cA h0 q0 q1 q2 q3 q4 q5 w ce (kx_sh nm (kx_pl nm (nI name) (kx_inn nm n) n - 1) n) ((kx_fo (kx_tc tl tc (nI ((kx_pl nm (nI name) (kx_inn nm n) n - 1) - 1)) z) (nI (kx_pl nm (nI name) (kx_inn nm n) n - 1)) tl tc tw z).2.1) ((kx_fo (kx_tc tl tc (nI ((kx_pl nm (nI name) (kx_inn nm n) n - 1) - 1)) z) (nI (kx_pl nm (nI name) (kx_inn nm n) n - 1)) tl tc tw z).2.2.1) ((kx_fo (kx_tc tl tc (nI ((kx_pl nm (nI name) (kx_inn nm n) n - 1) - 1)) z) (nI (kx_pl nm (nI name) (kx_inn nm n) n - 1)) tl tc tw z).2.2.2) T (n - 1) ((kx_fo (kx_tc tl tc (nI ((kx_pl nm (nI name) (kx_inn nm n) n - 1) - 1)) z) (nI (kx_pl nm (nI name) (kx_inn nm n) n - 1)) tl tc tw z).1) wtc wia off) := hD
  have hP : va_P (dC, dI) vwCl (wX0 cA h0 q0 q1 q2 q3 q4 q5 w ce ((kx_fd (nm, tl, tc, tw, n, z) (kx_pl nm (nI name) (kx_inn nm n) n - 1)).1) ((kx_fd (nm, tl, tc, tw, n, z) (kx_pl nm (nI name) (kx_inn nm n) n - 1)).2.1) ((kx_fd (nm, tl, tc, tw, n, z) (kx_pl nm (nI name) (kx_inn nm n) n - 1)).2.2.1) ((kx_fd (nm, tl, tc, tw, n, z) (kx_pl nm (nI name) (kx_inn nm n) n - 1)).2.2.2.1) T ((kx_fd (nm, tl, tc, tw, n, z) (kx_pl nm (nI name) (kx_inn nm n) n - 1)).2.2.2.2.1) ((kx_fd (nm, tl, tc, tw, n, z) (kx_pl nm (nI name) (kx_inn nm n) n - 1)).2.2.2.2.2) wtc wia off) H := by exact hP
  have hD : va_D A (wX0 cA h0 q0 q1 q2 q3 q4 q5 w ce ((kx_fd (nm, tl, tc, tw, n, z) (kx_pl nm (nI name) (kx_inn nm n) n - 1)).1) ((kx_fd (nm, tl, tc, tw, n, z) (kx_pl nm (nI name) (kx_inn nm n) n - 1)).2.1) ((kx_fd (nm, tl, tc, tw, n, z) (kx_pl nm (nI name) (kx_inn nm n) n - 1)).2.2.1) ((kx_fd (nm, tl, tc, tw, n, z) (kx_pl nm (nI name) (kx_inn nm n) n - 1)).2.2.2.1) T ((kx_fd (nm, tl, tc, tw, n, z) (kx_pl nm (nI name) (kx_inn nm n) n - 1)).2.2.2.2.1) ((kx_fd (nm, tl, tc, tw, n, z) (kx_pl nm (nI name) (kx_inn nm n) n - 1)).2.2.2.2.2) wtc wia off) := by exact hD
  have hfn : (kx_fd (nm, tl, tc, tw, n, z) (kx_pl nm (nI name) (kx_inn nm n) n - 1)).2.2.2.2.1 = n - 1 := rfl
  refine lv_aload_n hx hb dX0_release_18 rfl (lv_at hl 0 rfl) ?_
  refine kv_Vi (Xr := []) (n := 0) (c_X0_points l dC dI cA h0 q0 q1 q2 q3 q4 q5 w ce ((kx_fd (nm, tl, tc, tw, n, z) (kx_pl nm (nI name) (kx_inn nm n) n - 1)).1) ((kx_fd (nm, tl, tc, tw, n, z) (kx_pl nm (nI name) (kx_inn nm n) n - 1)).2.1) ((kx_fd (nm, tl, tc, tw, n, z) (kx_pl nm (nI name) (kx_inn nm n) n - 1)).2.2.1) ((kx_fd (nm, tl, tc, tw, n, z) (kx_pl nm (nI name) (kx_inn nm n) n - 1)).2.2.2.1) T ((kx_fd (nm, tl, tc, tw, n, z) (kx_pl nm (nI name) (kx_inn nm n) n - 1)).2.2.2.2.1) ((kx_fd (nm, tl, tc, tw, n, z) (kx_pl nm (nI name) (kx_inn nm n) n - 1)).2.2.2.2.2) wtc wia off  (by omega)) hx hb hml hown hts gX0_release_X0_points rfl ⟨rfl, rfl⟩ (by decide +kernel) rfl ⟨Nat.le_of_ble_eq_true rfl, Nat.le_of_ble_eq_true rfl⟩ hK hP hD hS hA [0] [0, 1, 2, 3, 4, 5, 6] [] rfl rfl rfl (by decide) (by decide) (q0 := 0) rfl rfl rfl (by decide) hl.1 rfl (Nat.le_of_ble_eq_true rfl) dX0_release_19 ⟨Nat.zero_le _, Nat.zero_le _⟩ (fun H locs hP hD hS => ?_)
  have hP : va_P (dC, dI) vwCl (wX0 cA h0 q0 q1 q2 q3 q4 q5 w ce ((kx_fd (nm, tl, tc, tw, n, z) (kx_pl nm (nI name) (kx_inn nm n) n - 1)).1) ((kx_fd (nm, tl, tc, tw, n, z) (kx_pl nm (nI name) (kx_inn nm n) n - 1)).2.1) ((kx_fd (nm, tl, tc, tw, n, z) (kx_pl nm (nI name) (kx_inn nm n) n - 1)).2.2.1) ((kx_fd (nm, tl, tc, tw, n, z) (kx_pl nm (nI name) (kx_inn nm n) n - 1)).2.2.2.1) T ((kx_fd (nm, tl, tc, tw, n, z) (kx_pl nm (nI name) (kx_inn nm n) n - 1)).2.2.2.2.1) ((kx_fd (nm, tl, tc, tw, n, z) (kx_pl nm (nI name) (kx_inn nm n) n - 1)).2.2.2.2.2) wtc wia off) H := hP
  have hD : va_D A (wX0 cA h0 q0 q1 q2 q3 q4 q5 w ce ((kx_fd (nm, tl, tc, tw, n, z) (kx_pl nm (nI name) (kx_inn nm n) n - 1)).1) ((kx_fd (nm, tl, tc, tw, n, z) (kx_pl nm (nI name) (kx_inn nm n) n - 1)).2.1) ((kx_fd (nm, tl, tc, tw, n, z) (kx_pl nm (nI name) (kx_inn nm n) n - 1)).2.2.1) ((kx_fd (nm, tl, tc, tw, n, z) (kx_pl nm (nI name) (kx_inn nm n) n - 1)).2.2.2.1) T ((kx_fd (nm, tl, tc, tw, n, z) (kx_pl nm (nI name) (kx_inn nm n) n - 1)).2.2.2.2.1) ((kx_fd (nm, tl, tc, tw, n, z) (kx_pl nm (nI name) (kx_inn nm n) n - 1)).2.2.2.2.2) wtc wia off) := hD
  exact kMi_ret hx hb hr hlocks hP hK hD hS dX0_release_22 rfl rfl
set_option maxHeartbeats 4000000 in
set_option maxRecDepth 100000 in
/-- NestCells.disk  -/
theorem c_X0_disk (l : Launch) (dC : Nat → ClassId) (dI : Nat → Nat → Nat) (cA : ClassId) (h0 q0 q1 q2 q3 q4 q5 : Nat) (w ce nm tl tc tw : Nat → Int32) (T n z : Nat) (wtc wia off : Int32) (i : Nat) (hi : i < 98) : kMi l yX0_disk wsX0_disk ({ frames := 1, cells := 0, slots := 0, locals := 21 }) dC dI [(cA, .int)] (wX0 cA h0 q0 q1 q2 q3 q4 q5 w ce nm tl tc tw T n z wtc wia off) [.ref h0, .int (nI i)] (w i) (wX0 cA h0 q0 q1 q2 q3 q4 q5 w ce nm tl tc tw T n z wtc wia off) := by
  refine kMi_of (cc := cX0_disk) (maxL := 2) (ret := (some .int)) (by decide) rfl (Nat.le_of_ble_eq_true rfl) ?_
  intro p e s m below meth c A ls hx hb hml hr hts hown hlocks hA hP hK hD hS hl
  have hin : ∀ w ∈ u_ws RX0 TX0 12, w ∈ wsX0_disk := by decide +kernel
  have hl : lv_has ls 2 [(0, .ref h0), (1, .int (nI i))] := hl
  refine lv_aload_n hx hb dX0_disk_0 rfl (lv_at hl 0 rfl) ?_
  refine lv_iload_n hx hb dX0_disk_1 rfl (lv_at hl 1 rfl) ?_
  refine kv_Vv (Xr := []) (n := 1) (c_X0_needWord l dC dI cA h0 q0 q1 q2 q3 q4 q5 w ce nm tl tc tw T n z wtc wia off i (by omega)) hx hb hml hown hts gX0_disk_X0_needWord rfl ⟨rfl, rfl⟩ (by decide +kernel) rfl ⟨Nat.le_of_ble_eq_true rfl, Nat.le_of_ble_eq_true rfl⟩ hK hP hD hS hA [0] [0, 1, 2, 3, 4, 5, 6] [] rfl rfl rfl (by decide) (by decide) (q0 := 0) rfl rfl rfl (by decide) hl.1 rfl (Nat.le_of_ble_eq_true rfl) dX0_disk_2 ⟨Nat.zero_le _, Nat.zero_le _⟩ (fun H locs hP hD hS => ?_)
  have hP : va_P (dC, dI) vwCl (wX0 cA h0 q0 q1 q2 q3 q4 q5 w ce nm tl tc tw T n z wtc wia off) H := hP
  have hD : va_D A (wX0 cA h0 q0 q1 q2 q3 q4 q5 w ce nm tl tc tw T n z wtc wia off) := hD
  refine lv_aload_n hx hb dX0_disk_5 rfl (lv_at hl 0 rfl) ?_
  refine va_get (D := (dC, dI)) (ci := 0) (v := .ref q0) (C := RX0) (T := TX0) (N := 12) hx hb hts hin hown hK hP 0 rfl rfl 0 (by decide) (hts (.fieldLink RX0 9 "NestCells" "words" "[I") (by decide +kernel)) (fun _ h9 => h9) rfl dX0_disk_6 ?_
  refine lv_iload_n hx hb dX0_disk_9 rfl (lv_at hl 1 rfl) ?_
  refine kv_iald hx hb hK hP 1 0 rfl rfl (by omega) (by omega) dX0_disk_10 ?_
  exact kMi_ret hx hb hr hlocks hP hK hD hS dX0_disk_11 rfl rfl
set_option maxHeartbeats 4000000 in
set_option maxRecDepth 100000 in
/-- NestCells.spoil  -/
theorem c_X0_spoil (l : Launch) (dC : Nat → ClassId) (dI : Nat → Nat → Nat) (cA : ClassId) (h0 q0 q1 q2 q3 q4 q5 : Nat) (w ce nm tl tc tw : Nat → Int32) (T n z : Nat) (wtc wia off : Int32) (i : Nat) (v : Int32) (hi : i < 98) : kMi l yX0_spoil wsX0_spoil ({ frames := 1, cells := 0, slots := 0, locals := 21 }) dC dI [(cA, .int)] (wX0 cA h0 q0 q1 q2 q3 q4 q5 w ce nm tl tc tw T n z wtc wia off) [.ref h0, .int (nI i), .int v] (w i) (wX0 cA h0 q0 q1 q2 q3 q4 q5 (upd w i v) ce nm tl tc tw T n z wtc wia off) := by
  refine kMi_of (cc := cX0_spoil) (maxL := 4) (ret := (some .int)) (by decide) rfl (Nat.le_of_ble_eq_true rfl) ?_
  intro p e s m below meth c A ls hx hb hml hr hts hown hlocks hA hP hK hD hS hl
  have hin : ∀ w ∈ u_ws RX0 TX0 12, w ∈ wsX0_spoil := by decide +kernel
  have hl : lv_has ls 4 [(0, .ref h0), (1, .int (nI i)), (2, .int v)] := hl
  refine lv_aload_n hx hb dX0_spoil_0 rfl (lv_at hl 0 rfl) ?_
  refine lv_iload_n hx hb dX0_spoil_1 rfl (lv_at hl 1 rfl) ?_
  refine kv_Vv (Xr := []) (n := 1) (c_X0_needWord l dC dI cA h0 q0 q1 q2 q3 q4 q5 w ce nm tl tc tw T n z wtc wia off i (by omega)) hx hb hml hown hts gX0_spoil_X0_needWord rfl ⟨rfl, rfl⟩ (by decide +kernel) rfl ⟨Nat.le_of_ble_eq_true rfl, Nat.le_of_ble_eq_true rfl⟩ hK hP hD hS hA [0] [0, 1, 2, 3, 4, 5, 6] [] rfl rfl rfl (by decide) (by decide) (q0 := 0) rfl rfl rfl (by decide) hl.1 rfl (Nat.le_of_ble_eq_true rfl) dX0_spoil_2 ⟨Nat.zero_le _, Nat.zero_le _⟩ (fun H locs hP hD hS => ?_)
  have hP : va_P (dC, dI) vwCl (wX0 cA h0 q0 q1 q2 q3 q4 q5 w ce nm tl tc tw T n z wtc wia off) H := hP
  have hD : va_D A (wX0 cA h0 q0 q1 q2 q3 q4 q5 w ce nm tl tc tw T n z wtc wia off) := hD
  refine lv_aload_n hx hb dX0_spoil_5 rfl (lv_at hl 0 rfl) ?_
  refine va_get (D := (dC, dI)) (ci := 0) (v := .ref q0) (C := RX0) (T := TX0) (N := 12) hx hb hts hin hown hK hP 0 rfl rfl 0 (by decide) (hts (.fieldLink RX0 9 "NestCells" "words" "[I") (by decide +kernel)) (fun _ h9 => h9) rfl dX0_spoil_6 ?_
  refine lv_iload_n hx hb dX0_spoil_9 rfl (lv_at hl 1 rfl) ?_
  refine kv_iald hx hb hK hP 1 0 rfl rfl (by omega) (by omega) dX0_spoil_10 ?_
  refine lv_istore_n (lv' := [(3, .int (w i)), (0, .ref h0), (1, .int (nI i)), (2, .int v)]) hx hb dX0_spoil_11 rfl hl (by decide) rfl (fun ls hl => ?_)
  refine lv_aload_n hx hb dX0_spoil_12 rfl (lv_at hl 1 rfl) ?_
  refine va_get (D := (dC, dI)) (ci := 0) (v := .ref q0) (C := RX0) (T := TX0) (N := 12) hx hb hts hin hown hK hP 0 rfl rfl 0 (by decide) (hts (.fieldLink RX0 9 "NestCells" "words" "[I") (by decide +kernel)) (fun _ h9 => h9) rfl dX0_spoil_13 ?_
  refine lv_iload_n hx hb dX0_spoil_16 rfl (lv_at hl 2 rfl) ?_
  refine lv_iload_n hx hb dX0_spoil_17 rfl (lv_at hl 3 rfl) ?_
  refine kv_iast hx hb hK hP hD hS 1 0 rfl rfl (by omega) (by omega) dX0_spoil_18 (fun H locs hP hD hS => ?_)
  have hP : va_P (dC, dI) vwCl (wX0 cA h0 q0 q1 q2 q3 q4 q5 (upd w i v) ce nm tl tc tw T n z wtc wia off) H := hP
  have hD : va_D A (wX0 cA h0 q0 q1 q2 q3 q4 q5 (upd w i v) ce nm tl tc tw T n z wtc wia off) := hD
  refine lv_iload_n hx hb dX0_spoil_19 rfl (lv_at hl 0 rfl) ?_
  exact kMi_ret hx hb hr hlocks hP hK hD hS dX0_spoil_20 rfl rfl
set_option maxHeartbeats 4000000 in
set_option maxRecDepth 100000 in
/-- NestCells.level_0  -/
theorem c_X0_level_0 (l : Launch) (dC : Nat → ClassId) (dI : Nat → Nat → Nat) (cA : ClassId) (h0 q0 q1 q2 q3 q4 q5 : Nat) (w ce nm tl tc tw : Nat → Int32) (T n z : Nat) (wtc wia off : Int32) (i : Nat) (hz : z ≤ 60) (hn : n ≤ 88) (hi : i < n) : kMi l yX0_level wsX0_level ({ frames := 1, cells := 0, slots := 0, locals := 23 }) dC dI [(cA, .int)] (wX0 cA h0 q0 q1 q2 q3 q4 q5 w ce nm tl tc tw T n z wtc wia off) [.ref h0, .int (nI i), .int (nI 0)] (kx_bc (kx_tc tl tc (nI i) z)) (wX0 cA h0 q0 q1 q2 q3 q4 q5 w ce nm tl tc tw T n z wtc wia off) := by
  refine kMi_of (cc := cX0_level) (maxL := 3) (ret := (some .int)) (by decide) rfl (Nat.le_of_ble_eq_true rfl) ?_
  intro p e s m below meth c A ls hx hb hml hr hts hown hlocks hA hP hK hD hS hl
  have hin : ∀ w ∈ u_ws RX0 TX0 12, w ∈ wsX0_level := by decide +kernel
  have hl : lv_has ls 3 [(0, .ref h0), (1, .int (nI i)), (2, .int (nI 0))] := hl
  refine lv_iload_n hx hb dX0_level_0 rfl (lv_at hl 1 rfl) ?_
  refine kv_if_lt (tgt := 12) hx hb (by omega) dX0_level_1 (by decide) ?_
  refine lv_iload_n hx hb dX0_level_4 rfl (lv_at hl 1 rfl) ?_
  refine lv_aload_n hx hb dX0_level_5 rfl (lv_at hl 0 rfl) ?_
  refine va_get (D := (dC, dI)) (ci := 0) (v := .int (nI n)) (C := RX0) (T := TX0) (N := 12) hx hb hts hin hown hK hP 0 rfl rfl 7 (by decide) (hts (.fieldLink RX0 71 "NestCells" "levels" "I") (by decide +kernel)) (fun _ h9 => h9) rfl dX0_level_6 ?_
  refine kv_lt (tgt := 22) hx hb (by omega) (by omega) dX0_level_9 (by decide) (fun h9_0 => ?_) (fun h9_0 => absurd h9_0 (by omega))
  refine lv_iload_n hx hb dX0_level_22 rfl (lv_at hl 2 rfl) ?_
  refine lv_lookup (off := 25) (tgt := 48) hx hb dX0_level_23 (by decide) (by decide) (by decide) ?_
  refine lv_aload_n hx hb dX0_level_48 rfl (lv_at hl 0 rfl) ?_
  refine lv_iload_n hx hb dX0_level_49 rfl (lv_at hl 1 rfl) ?_
  refine kv_Vi (Xr := []) (n := 1) (c_X0_tracedCells l dC dI cA h0 q0 q1 q2 q3 q4 q5 w ce nm tl tc tw T n z wtc wia off (nI i) (by omega)) hx hb hml hown hts gX0_level_X0_tracedCells rfl ⟨rfl, rfl⟩ (by decide +kernel) rfl ⟨Nat.le_of_ble_eq_true rfl, Nat.le_of_ble_eq_true rfl⟩ hK hP hD hS hA [0] [0, 1, 2, 3, 4, 5, 6] [] rfl rfl rfl (by decide) (by decide) (q0 := 0) rfl rfl rfl (by decide) hl.1 rfl (Nat.le_of_ble_eq_true rfl) dX0_level_50 ⟨Nat.zero_le _, Nat.zero_le _⟩ (fun H locs hP hD hS => ?_)
  have hP : va_P (dC, dI) vwCl (wX0 cA h0 q0 q1 q2 q3 q4 q5 w ce nm tl tc tw T n z wtc wia off) H := hP
  have hD : va_D A (wX0 cA h0 q0 q1 q2 q3 q4 q5 w ce nm tl tc tw T n z wtc wia off) := hD
  refine kv_Si (Xr := wX0 cA h0 q0 q1 q2 q3 q4 q5 w ce nm tl tc tw T n z wtc wia off) (n := 1) (c_J6_bitCount_0f7a4 l dC dI   (kx_tc tl tc (nI i) z) ) hx hb hml hown hts gX0_level_J6_bitCount_0f7a4 rfl ⟨rfl, rfl⟩ (by decide +kernel) rfl ⟨Nat.le_of_ble_eq_true rfl, Nat.le_of_ble_eq_true rfl⟩ hK hP hD hS hA [] [] [0, 1, 2, 3, 4, 5, 6] rfl rfl rfl (by decide) (by decide) rfl (by decide) hl.1 rfl (Nat.le_of_ble_eq_true rfl) dX0_level_53 ⟨Nat.zero_le _, Nat.zero_le _⟩ (fun H locs hP hD hS => ?_)
  have hP : va_P (dC, dI) vwCl (wX0 cA h0 q0 q1 q2 q3 q4 q5 w ce nm tl tc tw T n z wtc wia off) H := hP
  have hD : va_D A (wX0 cA h0 q0 q1 q2 q3 q4 q5 w ce nm tl tc tw T n z wtc wia off) := hD
  exact kMi_ret hx hb hr hlocks hP hK hD hS dX0_level_56 rfl rfl
set_option maxHeartbeats 4000000 in
set_option maxRecDepth 100000 in
/-- NestCells.level_1  -/
theorem c_X0_level_1 (l : Launch) (dC : Nat → ClassId) (dI : Nat → Nat → Nat) (cA : ClassId) (h0 q0 q1 q2 q3 q4 q5 : Nat) (w ce nm tl tc tw : Nat → Int32) (T n z : Nat) (wtc wia off : Int32) (i : Nat) (hn : n ≤ 88) (hi : i < n) : kMi l yX0_level wsX0_level ({ frames := 1, cells := 0, slots := 0, locals := 23 }) dC dI [(cA, .int)] (wX0 cA h0 q0 q1 q2 q3 q4 q5 w ce nm tl tc tw T n z wtc wia off) [.ref h0, .int (nI i), .int (nI 1)] (nm i) (wX0 cA h0 q0 q1 q2 q3 q4 q5 w ce nm tl tc tw T n z wtc wia off) := by
  refine kMi_of (cc := cX0_level) (maxL := 3) (ret := (some .int)) (by decide) rfl (Nat.le_of_ble_eq_true rfl) ?_
  intro p e s m below meth c A ls hx hb hml hr hts hown hlocks hA hP hK hD hS hl
  have hin : ∀ w ∈ u_ws RX0 TX0 12, w ∈ wsX0_level := by decide +kernel
  have hl : lv_has ls 3 [(0, .ref h0), (1, .int (nI i)), (2, .int (nI 1))] := hl
  refine lv_iload_n hx hb dX0_level_0 rfl (lv_at hl 1 rfl) ?_
  refine kv_if_lt (tgt := 12) hx hb (by omega) dX0_level_1 (by decide) ?_
  refine lv_iload_n hx hb dX0_level_4 rfl (lv_at hl 1 rfl) ?_
  refine lv_aload_n hx hb dX0_level_5 rfl (lv_at hl 0 rfl) ?_
  refine va_get (D := (dC, dI)) (ci := 0) (v := .int (nI n)) (C := RX0) (T := TX0) (N := 12) hx hb hts hin hown hK hP 0 rfl rfl 7 (by decide) (hts (.fieldLink RX0 71 "NestCells" "levels" "I") (by decide +kernel)) (fun _ h9 => h9) rfl dX0_level_6 ?_
  refine kv_lt (tgt := 22) hx hb (by omega) (by omega) dX0_level_9 (by decide) (fun h9_0 => ?_) (fun h9_0 => absurd h9_0 (by omega))
  refine lv_iload_n hx hb dX0_level_22 rfl (lv_at hl 2 rfl) ?_
  refine lv_lookup (off := 34) (tgt := 57) hx hb dX0_level_23 (by decide) (by decide) (by decide) ?_
  refine lv_aload_n hx hb dX0_level_57 rfl (lv_at hl 0 rfl) ?_
  refine va_get (D := (dC, dI)) (ci := 0) (v := .ref q2) (C := RX0) (T := TX0) (N := 12) hx hb hts hin hown hK hP 0 rfl rfl 2 (by decide) (hts (.fieldLink RX0 16 "NestCells" "levelName" "[I") (by decide +kernel)) (fun _ h9 => h9) rfl dX0_level_58 ?_
  refine lv_iload_n hx hb dX0_level_61 rfl (lv_at hl 1 rfl) ?_
  refine kv_iald hx hb hK hP 3 0 rfl rfl (by omega) (by omega) dX0_level_62 ?_
  exact kMi_ret hx hb hr hlocks hP hK hD hS dX0_level_63 rfl rfl
set_option maxHeartbeats 4000000 in
set_option maxRecDepth 100000 in
/-- NestCells.about_0  -/
theorem c_X0_about_0 (l : Launch) (dC : Nat → ClassId) (dI : Nat → Nat → Nat) (cA : ClassId) (h0 q0 q1 q2 q3 q4 q5 : Nat) (w ce nm tl tc tw : Nat → Int32) (T n z : Nat) (wtc wia off : Int32)   : kMi l yX0_about wsX0_about ({ frames := 2, cells := 0, slots := 0, locals := 41 }) dC dI [(cA, .int)] (wX0 cA h0 q0 q1 q2 q3 q4 q5 w ce nm tl tc tw T n z wtc wia off) [.ref h0, .int (nI 0)] (nI T) (wX0 cA h0 q0 q1 q2 q3 q4 q5 w ce nm tl tc tw T n z wtc wia off) := by
  refine kMi_of (cc := cX0_about) (maxL := 2) (ret := (some .int)) (by decide) rfl (Nat.le_of_ble_eq_true rfl) ?_
  intro p e s m below meth c A ls hx hb hml hr hts hown hlocks hA hP hK hD hS hl
  have hin : ∀ w ∈ u_ws RX0 TX0 12, w ∈ wsX0_about := by decide +kernel
  have hl : lv_has ls 2 [(0, .ref h0), (1, .int (nI 0))] := hl
  refine lv_iload_n hx hb dX0_about_0 rfl (lv_at hl 1 rfl) ?_
  refine lv_tableIn (off := 43) (tgt := 44) hx hb dX0_about_1 (by decide) (by decide) (by decide) (by decide) ?_
  refine lv_aload_n hx hb dX0_about_44 rfl (lv_at hl 0 rfl) ?_
  refine va_get (D := (dC, dI)) (ci := 0) (v := .int (nI T)) (C := RX0) (T := TX0) (N := 12) hx hb hts hin hown hK hP 0 rfl rfl 6 (by decide) (hts (.fieldLink RX0 51 "NestCells" "transactions" "I") (by decide +kernel)) (fun _ h9 => h9) rfl dX0_about_45 ?_
  exact kMi_ret hx hb hr hlocks hP hK hD hS dX0_about_48 rfl rfl
set_option maxHeartbeats 4000000 in
set_option maxRecDepth 100000 in
/-- NestCells.about_1  -/
theorem c_X0_about_1 (l : Launch) (dC : Nat → ClassId) (dI : Nat → Nat → Nat) (cA : ClassId) (h0 q0 q1 q2 q3 q4 q5 : Nat) (w ce nm tl tc tw : Nat → Int32) (T n z : Nat) (wtc wia off : Int32)   : kMi l yX0_about wsX0_about ({ frames := 2, cells := 0, slots := 0, locals := 41 }) dC dI [(cA, .int)] (wX0 cA h0 q0 q1 q2 q3 q4 q5 w ce nm tl tc tw T n z wtc wia off) [.ref h0, .int (nI 1)] (nI n) (wX0 cA h0 q0 q1 q2 q3 q4 q5 w ce nm tl tc tw T n z wtc wia off) := by
  refine kMi_of (cc := cX0_about) (maxL := 2) (ret := (some .int)) (by decide) rfl (Nat.le_of_ble_eq_true rfl) ?_
  intro p e s m below meth c A ls hx hb hml hr hts hown hlocks hA hP hK hD hS hl
  have hin : ∀ w ∈ u_ws RX0 TX0 12, w ∈ wsX0_about := by decide +kernel
  have hl : lv_has ls 2 [(0, .ref h0), (1, .int (nI 1))] := hl
  refine lv_iload_n hx hb dX0_about_0 rfl (lv_at hl 1 rfl) ?_
  refine lv_tableIn (off := 48) (tgt := 49) hx hb dX0_about_1 (by decide) (by decide) (by decide) (by decide) ?_
  refine lv_aload_n hx hb dX0_about_49 rfl (lv_at hl 0 rfl) ?_
  refine va_get (D := (dC, dI)) (ci := 0) (v := .int (nI n)) (C := RX0) (T := TX0) (N := 12) hx hb hts hin hown hK hP 0 rfl rfl 7 (by decide) (hts (.fieldLink RX0 71 "NestCells" "levels" "I") (by decide +kernel)) (fun _ h9 => h9) rfl dX0_about_50 ?_
  exact kMi_ret hx hb hr hlocks hP hK hD hS dX0_about_53 rfl rfl
set_option maxHeartbeats 4000000 in
set_option maxRecDepth 100000 in
/-- NestCells.about_2  -/
theorem c_X0_about_2 (l : Launch) (dC : Nat → ClassId) (dI : Nat → Nat → Nat) (cA : ClassId) (h0 q0 q1 q2 q3 q4 q5 : Nat) (w ce nm tl tc tw : Nat → Int32) (T n z : Nat) (wtc wia off : Int32)   : kMi l yX0_about wsX0_about ({ frames := 2, cells := 0, slots := 0, locals := 41 }) dC dI [(cA, .int)] (wX0 cA h0 q0 q1 q2 q3 q4 q5 w ce nm tl tc tw T n z wtc wia off) [.ref h0, .int (nI 2)] (nI z) (wX0 cA h0 q0 q1 q2 q3 q4 q5 w ce nm tl tc tw T n z wtc wia off) := by
  refine kMi_of (cc := cX0_about) (maxL := 2) (ret := (some .int)) (by decide) rfl (Nat.le_of_ble_eq_true rfl) ?_
  intro p e s m below meth c A ls hx hb hml hr hts hown hlocks hA hP hK hD hS hl
  have hin : ∀ w ∈ u_ws RX0 TX0 12, w ∈ wsX0_about := by decide +kernel
  have hl : lv_has ls 2 [(0, .ref h0), (1, .int (nI 2))] := hl
  refine lv_iload_n hx hb dX0_about_0 rfl (lv_at hl 1 rfl) ?_
  refine lv_tableIn (off := 53) (tgt := 54) hx hb dX0_about_1 (by decide) (by decide) (by decide) (by decide) ?_
  refine lv_aload_n hx hb dX0_about_54 rfl (lv_at hl 0 rfl) ?_
  refine va_get (D := (dC, dI)) (ci := 0) (v := .int (nI z)) (C := RX0) (T := TX0) (N := 12) hx hb hts hin hown hK hP 0 rfl rfl 8 (by decide) (hts (.fieldLink RX0 82 "NestCells" "traces" "I") (by decide +kernel)) (fun _ h9 => h9) rfl dX0_about_55 ?_
  exact kMi_ret hx hb hr hlocks hP hK hD hS dX0_about_58 rfl rfl
set_option maxHeartbeats 4000000 in
set_option maxRecDepth 100000 in
/-- NestCells.about_3  -/
theorem c_X0_about_3 (l : Launch) (dC : Nat → ClassId) (dI : Nat → Nat → Nat) (cA : ClassId) (h0 q0 q1 q2 q3 q4 q5 : Nat) (w ce nm tl tc tw : Nat → Int32) (T n z : Nat) (wtc wia off : Int32)   : kMi l yX0_about wsX0_about ({ frames := 2, cells := 0, slots := 0, locals := 41 }) dC dI [(cA, .int)] (wX0 cA h0 q0 q1 q2 q3 q4 q5 w ce nm tl tc tw T n z wtc wia off) [.ref h0, .int (nI 3)] wtc (wX0 cA h0 q0 q1 q2 q3 q4 q5 w ce nm tl tc tw T n z wtc wia off) := by
  refine kMi_of (cc := cX0_about) (maxL := 2) (ret := (some .int)) (by decide) rfl (Nat.le_of_ble_eq_true rfl) ?_
  intro p e s m below meth c A ls hx hb hml hr hts hown hlocks hA hP hK hD hS hl
  have hin : ∀ w ∈ u_ws RX0 TX0 12, w ∈ wsX0_about := by decide +kernel
  have hl : lv_has ls 2 [(0, .ref h0), (1, .int (nI 3))] := hl
  refine lv_iload_n hx hb dX0_about_0 rfl (lv_at hl 1 rfl) ?_
  refine lv_tableIn (off := 58) (tgt := 59) hx hb dX0_about_1 (by decide) (by decide) (by decide) (by decide) ?_
  refine lv_aload_n hx hb dX0_about_59 rfl (lv_at hl 0 rfl) ?_
  refine va_get (D := (dC, dI)) (ci := 0) (v := .int wtc) (C := RX0) (T := TX0) (N := 12) hx hb hts hin hown hK hP 0 rfl rfl 9 (by decide) (hts (.fieldLink RX0 37 "NestCells" "writesTillCrash" "I") (by decide +kernel)) (fun _ h9 => h9) rfl dX0_about_60 ?_
  exact kMi_ret hx hb hr hlocks hP hK hD hS dX0_about_63 rfl rfl
set_option maxHeartbeats 4000000 in
set_option maxRecDepth 100000 in
/-- NestCells.about_4  -/
theorem c_X0_about_4 (l : Launch) (dC : Nat → ClassId) (dI : Nat → Nat → Nat) (cA : ClassId) (h0 q0 q1 q2 q3 q4 q5 : Nat) (w ce nm tl tc tw : Nat → Int32) (T n z : Nat) (wtc wia off : Int32)   : kMi l yX0_about wsX0_about ({ frames := 2, cells := 0, slots := 0, locals := 41 }) dC dI [(cA, .int)] (wX0 cA h0 q0 q1 q2 q3 q4 q5 w ce nm tl tc tw T n z wtc wia off) [.ref h0, .int (nI 4)] wia (wX0 cA h0 q0 q1 q2 q3 q4 q5 w ce nm tl tc tw T n z wtc wia off) := by
  refine kMi_of (cc := cX0_about) (maxL := 2) (ret := (some .int)) (by decide) rfl (Nat.le_of_ble_eq_true rfl) ?_
  intro p e s m below meth c A ls hx hb hml hr hts hown hlocks hA hP hK hD hS hl
  have hin : ∀ w ∈ u_ws RX0 TX0 12, w ∈ wsX0_about := by decide +kernel
  have hl : lv_has ls 2 [(0, .ref h0), (1, .int (nI 4))] := hl
  refine lv_iload_n hx hb dX0_about_0 rfl (lv_at hl 1 rfl) ?_
  refine lv_tableIn (off := 63) (tgt := 64) hx hb dX0_about_1 (by decide) (by decide) (by decide) (by decide) ?_
  refine lv_aload_n hx hb dX0_about_64 rfl (lv_at hl 0 rfl) ?_
  refine va_get (D := (dC, dI)) (ci := 0) (v := .int wia) (C := RX0) (T := TX0) (N := 12) hx hb hts hin hown hK hP 0 rfl rfl 10 (by decide) (hts (.fieldLink RX0 41 "NestCells" "writesInAll" "I") (by decide +kernel)) (fun _ h9 => h9) rfl dX0_about_65 ?_
  exact kMi_ret hx hb hr hlocks hP hK hD hS dX0_about_68 rfl rfl
set_option maxHeartbeats 4000000 in
set_option maxRecDepth 100000 in
/-- NestCells.about_5  -/
theorem c_X0_about_5 (l : Launch) (dC : Nat → ClassId) (dI : Nat → Nat → Nat) (cA : ClassId) (h0 q0 q1 q2 q3 q4 q5 : Nat) (w ce nm tl tc tw : Nat → Int32) (T n z : Nat) (wtc wia off : Int32)   : kMi l yX0_about wsX0_about ({ frames := 2, cells := 0, slots := 0, locals := 41 }) dC dI [(cA, .int)] (wX0 cA h0 q0 q1 q2 q3 q4 q5 w ce nm tl tc tw T n z wtc wia off) [.ref h0, .int (nI 5)] (if off = 0 then nI 0 else nI 1) (wX0 cA h0 q0 q1 q2 q3 q4 q5 w ce nm tl tc tw T n z wtc wia off) := by
  refine kMi_of (cc := cX0_about) (maxL := 2) (ret := (some .int)) (by decide) rfl (Nat.le_of_ble_eq_true rfl) ?_
  intro p e s m below meth c A ls hx hb hml hr hts hown hlocks hA hP hK hD hS hl
  have hin : ∀ w ∈ u_ws RX0 TX0 12, w ∈ wsX0_about := by decide +kernel
  have hl : lv_has ls 2 [(0, .ref h0), (1, .int (nI 5))] := hl
  refine lv_iload_n hx hb dX0_about_0 rfl (lv_at hl 1 rfl) ?_
  refine lv_tableIn (off := 68) (tgt := 69) hx hb dX0_about_1 (by decide) (by decide) (by decide) (by decide) ?_
  refine lv_aload_n hx hb dX0_about_69 rfl (lv_at hl 0 rfl) ?_
  refine va_get (D := (dC, dI)) (ci := 0) (v := .int off) (C := RX0) (T := TX0) (N := 12) hx hb hts hin hown hK hP 0 rfl rfl 11 (by decide) (hts (.fieldLink RX0 44 "NestCells" "off" "Z") (by decide +kernel)) (fun _ h9 => h9) rfl dX0_about_70 ?_
  refine lv_if_eq (tgt := 80) hx hb dX0_about_73 (by decide) (fun h73_0 => ?_) (fun h73_0 => ?_)
  · skip
    refine lv_iconst (v := (nI 0)) hx hb dX0_about_80 (by decide) ?_
    exact kMi_ret hx hb hr hlocks hP hK hD hS dX0_about_81 (by simp [h73_0]) rfl
  · skip
    refine lv_iconst (v := (nI 1)) hx hb dX0_about_76 (by decide) ?_
    refine lv_goto (tgt := 81) hx hb dX0_about_77 (by decide) ?_
    exact kMi_ret hx hb hr hlocks hP hK hD hS dX0_about_81 (by simp [h73_0]) rfl
set_option maxHeartbeats 4000000 in
set_option maxRecDepth 100000 in
/-- NestCells.about_6  -/
theorem c_X0_about_6 (l : Launch) (dC : Nat → ClassId) (dI : Nat → Nat → Nat) (cA : ClassId) (h0 q0 q1 q2 q3 q4 q5 : Nat) (w ce nm tl tc tw : Nat → Int32) (T n z : Nat) (wtc wia off : Int32)  (hn : n ≤ 88) : kMi l yX0_about wsX0_about ({ frames := 2, cells := 0, slots := 0, locals := 41 }) dC dI [(cA, .int)] (wX0 cA h0 q0 q1 q2 q3 q4 q5 w ce nm tl tc tw T n z wtc wia off) [.ref h0, .int (nI 6)] (nI (n - kx_inn nm n)) (wX0 cA h0 q0 q1 q2 q3 q4 q5 w ce nm tl tc tw T n z wtc wia off) := by
  refine kMi_of (cc := cX0_about) (maxL := 2) (ret := (some .int)) (by decide) rfl (Nat.le_of_ble_eq_true rfl) ?_
  intro p e s m below meth c A ls hx hb hml hr hts hown hlocks hA hP hK hD hS hl
  have hin : ∀ w ∈ u_ws RX0 TX0 12, w ∈ wsX0_about := by decide +kernel
  have hl : lv_has ls 2 [(0, .ref h0), (1, .int (nI 6))] := hl
  refine lv_iload_n hx hb dX0_about_0 rfl (lv_at hl 1 rfl) ?_
  refine lv_tableIn (off := 81) (tgt := 82) hx hb dX0_about_1 (by decide) (by decide) (by decide) (by decide) ?_
  refine lv_aload_n hx hb dX0_about_82 rfl (lv_at hl 0 rfl) ?_
  refine kv_Vi (Xr := []) (n := 0) (c_X0_points l dC dI cA h0 q0 q1 q2 q3 q4 q5 w ce nm tl tc tw T n z wtc wia off  (by omega)) hx hb hml hown hts gX0_about_X0_points rfl ⟨rfl, rfl⟩ (by decide +kernel) rfl ⟨Nat.le_of_ble_eq_true rfl, Nat.le_of_ble_eq_true rfl⟩ hK hP hD hS hA [0] [0, 1, 2, 3, 4, 5, 6] [] rfl rfl rfl (by decide) (by decide) (q0 := 0) rfl rfl rfl (by decide) hl.1 rfl (Nat.le_of_ble_eq_true rfl) dX0_about_83 ⟨Nat.zero_le _, Nat.zero_le _⟩ (fun H locs hP hD hS => ?_)
  have hP : va_P (dC, dI) vwCl (wX0 cA h0 q0 q1 q2 q3 q4 q5 w ce nm tl tc tw T n z wtc wia off) H := hP
  have hD : va_D A (wX0 cA h0 q0 q1 q2 q3 q4 q5 w ce nm tl tc tw T n z wtc wia off) := hD
  exact kMi_ret hx hb hr hlocks hP hK hD hS dX0_about_86 rfl rfl
end
section
/-! calls that throw: the class's name, nothing changed, one cell of six slots made -/
abbrev kNm : List String := ["java/lang/RuntimeException", "java/lang/Exception"]
def kISE : String := "java/lang/IllegalStateException"
def kIAE : String := "java/lang/IllegalArgumentException"
def kBad (E : String) : List Cond := [.castable E E, .declares (Bundle.initS "java/lang/RuntimeException"), .declares (Bundle.initS "java/lang/Exception"), .declares (Bundle.initS Bundle.tN)]
def kStrs : List (Nat × String) := [(56, "there are 8 transactions"), (85, "there are 60 traces"), (133, "no such level"), (141, "what is 0 or 1"), (143, "what is 0 to 6"), (145, "the power is off"), (147, "there is no transaction"), (153, "no such cell"), (155, "no such word"), (157, "no such name"), (159, "no such point")]
/-- what a throw needs of the world: two statics of Throwable, some words of the tables, the texts -/
def kZ (A : Nat → Prop) (U : State) : Prop :=
  vx_Zq Bundle.tN "UNASSIGNED_STACK" Bundle.steD A U U.heap ∧ vx_Zq Bundle.tN "SUPPRESSED_SENTINEL" Bundle.listD A U U.heap ∧ (∀ w ∈ kBad kISE, va_Nw w U) ∧ (∀ w ∈ kBad kIAE, va_Nw w U) ∧ ∀ q ∈ kStrs, ∃ a : Nat, vk_R RX0 q.1 q.2 a U
theorem kBad_warm {E : String} {s U : State} (hW : s.WarmedH U.vm) (h : ∀ w ∈ kBad E, va_Nw w s) : ∀ w ∈ kBad E, va_Nw w U := by
  intro w hw
  have h1 := h w hw
  simp only [kBad, List.mem_cons, List.not_mem_nil, or_false] at hw
  rcases hw with rfl | rfl | rfl | rfl
  · exact va_Nw.warmC hW h1
  · exact va_Nw.warmD hW h1
  · exact va_Nw.warmD hW h1
  · exact va_Nw.warmD hW h1
theorem kZ.calling {A : Nat → Prop} {U : State} (h : kZ A U) (g : JFrame) (mk : MethodId) (a : Array Value) : kZ A (U.calling g mk a) := by
  obtain ⟨h1, h2, h3, h4, h5⟩ := h
  have hW : U.WarmedH (U.calling g mk a).vm := State.WarmedH.refl U
  exact ⟨vx_Zq.moved (u := U) (U := U.calling g mk a) (Vm.Alike.refl U.vm) h1, vx_Zq.moved (u := U) (U := U.calling g mk a) (Vm.Alike.refl U.vm) h2, kBad_warm hW h3, kBad_warm hW h4, fun q hq => by obtain ⟨b, hb⟩ := h5 q hq; exact ⟨b, vk_R.warm hW hb⟩⟩
theorem kZ.at {A B : Nat → Prop} {s U : State} {H : Heap} {locs : List Loc} (h : kZ A s) (hS : va_S A s.heap H locs) (hU : U.heap = H) (hW : s.WarmedH U.vm) (hAB : ∀ q, B q → A q) : kZ B U := by
  obtain ⟨h1, h2, h3, h4, h5⟩ := h
  refine ⟨?_, ?_, kBad_warm hW h3, kBad_warm hW h4, fun q hq => by obtain ⟨b, hb⟩ := h5 q hq; exact ⟨b, vk_R.warm hW hb⟩⟩
  · rw [hU]; exact (vx_Zq.moved hW.alike (h1.kept hS.2.1)).narrow hAB
  · rw [hU]; exact (vx_Zq.moved hW.alike (h2.kept hS.2.1)).narrow hAB
abbrev kPz (dC : Nat → ClassId) (dI : Nat → Nat → Nat) (tys : List (ClassId × FieldType)) (X : va_W) (sz : Nat) (av : List Value) : Array Value → State → Prop := va_Pc av (fun U => U.heap.size = sz ∧ va_P (dC, dI) vwCl X U.heap ∧ va_K (dC, dI) vwCl tys U ∧ va_D (fun _ => True) X ∧ kZ (va_A X sz) U)
abbrev kXC (dC : Nat → ClassId) (dI : Nat → Nat → Nat) (tys : List (ClassId × FieldType)) (X : va_W) (E : String) (A : Nat → Prop) : String → State → State → Prop := vx_X (fun (_ : Unit) => True) (fun E' _ t => E' = E ∧ va_P (dC, dI) vwCl X t.heap ∧ va_K (dC, dI) vwCl tys t ∧ va_D A X) A
def kMx (l : Launch) (y : MethodName) (ws : List Cond) (rm : Room) (dC : Nat → ClassId) (dI : Nat → Nat → Nat) (tys : List (ClassId × FieldType)) (X : va_W) (av : List Value) (E : String) : Prop :=
  ∀ sz : Nat, vx_Met l y ws rm (kPz dC dI tys X sz av) (fun _ _ _ _ => False) (kXC dC dI tys X E (va_A X sz)) 1 6 (va_A X sz)
theorem kMx_of {l : Launch} {y : MethodName} {ws ws' : List Cond} {rm : Room} {dC : Nat → ClassId} {dI : Nat → Nat → Nat} {tys : List (ClassId × FieldType)} {X : va_W} {av : List Value} {E : String} {cc : ByteArray} {maxL : Nat} {ret : Option FieldType}
    (hy : plainName y.cls = true) (hw : ws = Cond.code y cc maxL ret :: ws') (hlen : (lg_sl av).length ≤ maxL)
    (body : ∀ (p : Program) (e : Env) (s : State) (m : MethodId) (below : List Frame) (meth : Method) (c : Code) (A : Nat → Prop) (ls : Array Slot), p.tables.exec = Jvm.exec → c.code = cc → c.maxLocals = maxL → meth.sig.returnType = ret → (∀ w ∈ ws, w.before av.toArray s = true) → s.vm.findClass y.cls = some m.cls → meth.locks = false →
      (∀ q : Nat, s.heap.size ≤ q → A q) → va_P (dC, dI) vwCl X s.heap → va_K (dC, dI) vwCl tys s → va_D A X → va_S A s.heap s.heap [] → kZ A s → (∀ x ∈ c.exceptionTable.toList, False) → lv_has ls maxL (lv_args 0 av) →
      W p l e (headSpec ws rm).room s m av.toArray below meth c s.heap [] 0 0 (vx_MQ below (fun _ _ _ _ => False) (kXC dC dI tys X E A) av.toArray s 1 6 A) (F0 m 0 ls [])) : kMx l y ws rm dC dI tys X av E := by
  intro sz
  refine vx_ofW (cc := cc) (maxL := maxL) (ret := ret) hy hw ?_
  intro p e s m args below meth c s₁ B hml hxt hv
  obtain ⟨rfl, hsz, hP, hK, hD0, hZ⟩ := hv
  subst hsz
  rw [lg_entry_eq]
  exact body p e s m below meth c _ _ B.exec B.bytes hml B.returns (atoms_spec (ws := ws) B.pre) (findClass_of_methodNamed B.named) B.notSynchronized
    (fun q h => Or.inr h) hP hK (hD0.self (sz := s.heap.size)) va_S.rf hZ hxt (lv_entry av hlen)
section
variable {p : Program} {l : Launch} {e : Env} {R : Room} {s : State} {m : MethodId} {args : Array Value} {below : List Frame} {meth : Method} {c : Code} {H : Heap} {locs : List Loc} {cells slots : Nat} {Q : State → Prop} {cc : ByteArray} {pc : Nat} {ls : Array Slot} {rest st0 As : List Value}
variable {dC : Nat → ClassId} {dI : Nat → Nat → Nat} {tys tyc : List (ClassId × FieldType)} {ws X Y : va_W} {A : Nat → Prop} {H0 : Heap} {Ts wy wy' : List Cond} {own C E : String} {y : MethodName} {rm : Room} {r : Int32} {index maxL nL n ci q0 : Nat} {bytes : ByteArray} {ret : Option FieldType} {b : Addr} {Qc : Array Value → State → Outcome → State → Prop}
theorem va_P.keep {D : va_G} {cl : List vw_C} {H1 : Heap} (h : va_P D cl ws H) (hk : ∀ q : Nat, q < H.size → H1[q]? = H[q]?) : va_P D cl ws H1 := fun k q hq => (h k q hq).kept (hk q.1 (h k q hq).lt)
/-- throw new E(text) -/
theorem kx_throw {text : String} {ik is ic : Nat} (hx : p.tables.exec = Jvm.exec) (hb : c.code = cc) (hl0 : l.stackTraces = false) (hown : s.vm.findClass RX0 = some m.cls) (hml : c.maxLocals = nL) (hfit : Bundle.fit E = true)
    (hk : (Cond.classLink RX0 ik E).before args s = true) (hini : (Cond.initialized E).before args s = true) (hg1 : ∀ w ∈ (vx_atS RX0 ic E kNm).filter goodWord, w.before args s = true) (hg2 : ∀ w ∈ (vx_atS RX0 ic E kNm).filter (fun w => !goodWord w), w ∈ kBad E) (hE : E = kISE ∨ E = kIAE)
    (hgood : ∀ w ∈ Cond.classLink RX0 ik E :: Cond.initialized E :: vx_atS RX0 ic E kNm, vx_ot w = true) (hst : (is, text) ∈ kStrs) (hZ : kZ A s)
    (hP : va_P (dC, dI) vwCl X H) (hK : va_K (dC, dI) vwCl tys s) (hD : va_D A X) (hS : va_S A s.heap H locs) (hxt : ∀ x ∈ c.exceptionTable.toList, False) (hlocks : meth.locks = false) (hl : ls.size = nL)
    (d0 : decode cc pc = .ok (.new ik, 3)) (d3 : decode cc (pc + 3) = .ok (.dup, 1)) (d4 : decode cc (pc + 4) = .ok (.ldc is, 2)) (d6 : decode cc (pc + 6) = .ok (.invokespecial ic, 3)) (d9 : decode cc (pc + 9) = .ok (.athrow, 1))
    (hR : 5 < R.frames ∧ 90 ≤ R.locals ∧ 1 ≤ R.cells ∧ 6 ≤ R.slots) : W p l e R s m args below meth c H locs 0 0 (vx_MQ below Qc (kXC dC dI tys X E A) args s 1 6 A) (F0 m pc ls []) := by
  obtain ⟨sa, hsa⟩ := hZ.2.2.2.2 _ hst
  have hbad : ∀ w ∈ kBad E, va_Nw w s := by
    rcases hE with rfl | rfl
    · exact hZ.2.2.1
    · exact hZ.2.2.2.1
  have hbad2 : ∀ w ∈ kBad E, w.before args s = true := by
    intro w hw
    have h1 := hbad w hw
    simp only [kBad, List.mem_cons, List.not_mem_nil, or_false] at hw
    rcases hw with rfl | rfl | rfl | rfl <;> exact va_Nw.use rfl h1
  refine vx_throwS (names := kNm) (sa := sa) (text := text) hx hb hl0 hown hfit (by decide +kernel) hk hini hsa (vx_hat hg1 hg2 hbad2) hgood hZ.1 hZ.2.1 hS (hl.trans hml.symm) d0 d3 d4 d6 d9 (fun x hx9 => (hxt x hx9).elim) ?_ ?_ ?_ ?_ hlocks ?_ hS.2.2 (by omega) (by omega)
  · show 2 + 3 < R.frames
    omega
  · show 0 + (13 * (2 + 1) + 43) ≤ R.locals
    omega
  · omega
  · omega
  · intro t hvm hz hk9
    refine ⟨(), trivial, ⟨rfl, hP.keep hk9, hK.moved hvm, hD⟩, Nat.le_trans hS.1 hz, fun q h1 h2 => ?_⟩
    rw [hk9 q (Nat.lt_of_lt_of_le h1 hS.1)]
    exact hS.2.1 q h1 h2
theorem kPz_blind {av : List Value} {sz : Nat} : FrameBlind (kPz dC dI tys X sz av) := fun a U g mk q => by
  obtain ⟨q0, q1, qP, qK, qD, qZ⟩ := q
  exact ⟨q0, q1, qP, va_K.moved (u := U) (U := U.calling g mk a) (Vm.Alike.refl U.vm) qK, qD, qZ.calling g mk a⟩
/-- a call of an object's method that throws: it goes through -/
theorem kx_thru (hM : kMx l y wy rm dC dI tys X (.ref b :: As) E) (hx : p.tables.exec = Jvm.exec) (hb : c.code = cc) (hml : c.maxLocals = nL) (hown : s.vm.findClass own = some m.cls) (hts : ∀ w ∈ Ts, w.before args s = true) (hG : GoodIn Ts (wsV own index C y wy)) (hw : wy = Cond.code y bytes maxL ret :: wy') (hrm : rm.cells = 1 ∧ rm.slots = 6)
    (hd : y.cls = C ∧ y.cls ≠ "java/lang/invoke/MethodHandle" ∧ y.cls ≠ "java/lang/invoke/VarHandle" ∧ (parseMethodDescriptor y.desc).map (fun d => d.parameters.length) = some n) (hAl : As.length = n) (hR : rm.frames + 1 ≤ R.frames ∧ 8 + (maxL + 11) + rm.locals ≤ R.locals ∧ 1 ≤ R.cells ∧ 6 ≤ R.slots)
    (hK : va_K (dC, dI) vwCl tys s) (hP : va_P (dC, dI) vwCl X H) (hD : va_D A X) (hS : va_S A s.heap H locs) (hA : ∀ q : Nat, s.heap.size ≤ q → A q) (hZ : kZ A s) (hxt : ∀ x ∈ c.exceptionTable.toList, False) (hlocks : meth.locks = false) (isC : List Nat) (hC : isC.map (fun i => X[i]?) = X.map some)
    {fs : List Value} (he : X[q0]? = some (b, .inr (ci, fs))) {T : u_T} {N : Nat} (hc : vwCl[ci]? = some (C, T, N))
    (hl : ls.size = nL) (hst : st0 = As.reverse ++ .ref b :: rest) (hroom : (rest.map fun v => v.category).sum ≤ 8) (hdg : decode cc pc = .ok (.invokevirtual index, 3)) :
    W p l e R s m args below meth c H locs 0 0 (vx_MQ below Qc (kXC dC dI tys X E A) args s 1 6 A) (F0 m pc ls st0) := by
  have hFc := va_free (wc := X) hD hS hA isC hC
  have hr : vx_Run p l e R s m args below meth c H locs 0 0 1 6 (F0 m pc ls st0) rest (fun _ _ _ => False) (kXC dC dI tys X E (va_A X H.size)) (va_A X H.size) := vx_runV (cells := 0) (slots := 0) (As := As) (rest := rest) ⟨hx, hb, hml, hown, hts⟩ (hM H.size) (cwV n hts hG hw hrm.1 hrm.2 hd ⟨hR.1, hR.2.1⟩) ⟨kPz_blind, va_recv hK hP hc he, fun U hU hW => ⟨rfl, by rw [hU], by rw [hU]; exact hP, va_K.moved hW.alike hK, hD.weaken (fun _ _ _ _ => trivial), hZ.at hS hU hW hFc⟩⟩ (g := F0 m pc ls st0) rfl hAl hl hst (lv_room hroom) hdg ⟨by omega, by omega⟩
  intro T9 hT X9
  rcases hr T9 hT X9 with ⟨v, st₀, t, T', L, h0, X', hL, e1, e2, hF, st⟩ | ⟨q, st₀, t, T', L, E', ce, h0, X', hL, e1, e2, ⟨u, hp, ⟨hE, hP1, hK1, hD1⟩, hF⟩, hce, hcv, hcl, st⟩
  · exact hF.elim
  · obtain ⟨k1, k2, k3⟩ := vx_keep (A0 := A) (A1 := va_A X H.size) (H0 := s.heap) h0 e1 hS (fun q _ h => hFc q h) hFc hL hF
    have hD2 : va_D A X := hD
    have hx9 := vx_out (pc := pc) (ls := ls) (rest := rest) (Qc := Qc) (XC := kXC dC dI tys X E A) (mc := 1) (ms := 6) (free := A) (locs := locs ++ L) (cells := 0 + 1) (slots := 0 + 6) (p := p) (l := l) (e := e) (R := R) (s := s) (m := m) (args := args) (below := below) (meth := meth) (c := c) (H := T'.heap) (E := E') (ce := ce) (q := q) (fun x hx9 => (hxt x hx9).elim) hlocks (by rw [e1]; exact hce) hcv hcl
      (fun t2 ht2 hvm2 => ⟨(), trivial, ⟨hE, by rw [ht2, e1]; exact hP1, hK.moved hvm2, hD2⟩, (show va_F A s t2 from k3.F ht2)⟩) k3.2.2 (by omega) (by omega)
    obtain ⟨t2, a1, b1⟩ := hx9 T' rfl X'
    exact ⟨t2, st.trans a1, b1⟩
end
theorem kx_pw_o (D : kx_D) (i : Nat) (v : Int32) (k : Nat) (h : k ≠ i) : (kx_pw D i v).1 k = D.1 k := by
  rw [kx_pw]
  split
  · split
    · rfl
    · exact pk_un h
  · rfl
theorem kx_hf_o (D : kx_D) (k : Nat) (h : 32 ≤ k) : ∀ j, (kx_hf D j).1.1 k = D.1 k
  | 0 => rfl
  | j + 1 => by
    rw [kx_hf]
    split
    · exact kx_hf_o D k h j
    · rename_i h1
      obtain ⟨ci, hci, eci⟩ := kx_isCell_of h1
      show (kx_pw _ _ _).1 k = _
      rw [kx_pw_o _ _ _ _ (by rw [eci, nI_clamp (by omega)]; omega)]
      exact kx_hf_o D k h j
end
section
theorem ky_badS : ∀ w ∈ (vx_atS RX0 58 kISE kNm).filter (fun w => !goodWord w), w ∈ kBad kISE := by decide +kernel
theorem ky_badA : ∀ w ∈ (vx_atS RX0 135 kIAE kNm).filter (fun w => !goodWord w), w ∈ kBad kIAE := by decide +kernel
theorem ky_okS : ∀ w ∈ Cond.classLink RX0 54 kISE :: Cond.initialized kISE :: vx_atS RX0 58 kISE kNm, vx_ot w = true := by decide +kernel
theorem ky_okA : ∀ w ∈ Cond.classLink RX0 131 kIAE :: Cond.initialized kIAE :: vx_atS RX0 135 kIAE kNm, vx_ot w = true := by decide +kernel
set_option maxHeartbeats 4000000 in
set_option maxRecDepth 100000 in
theorem c_X0_needPower_x (l : Launch) (hl0 : l.stackTraces = false) (dC : Nat → ClassId) (dI : Nat → Nat → Nat) (cA : ClassId) (h0 q0 q1 q2 q3 q4 q5 : Nat) (w ce nm tl tc tw : Nat → Int32) (T n z : Nat) (wtc wia off : Int32)  (ho : ¬ off = 0) : kMx l yX0_needPower wsX0_needPower ({ frames := 6, cells := 1, slots := 6, locals := 90 }) dC dI [(cA, .int)] (wX0 cA h0 q0 q1 q2 q3 q4 q5 w ce nm tl tc tw T n z wtc wia off) [.ref h0] kISE := by
  refine kMx_of (cc := cX0_needPower) (maxL := 1) (ret := none) (by decide) rfl (Nat.le_of_ble_eq_true rfl) ?_
  intro p e s m below meth c A ls hx hb hml hr hts hown hlocks hA hP hK hD hS hZ hxt hl
  have hin : ∀ w ∈ u_ws RX0 TX0 12, w ∈ wsX0_needPower := by decide +kernel
  have hl : lv_has ls 1 [(0, .ref h0)] := hl
  refine lv_aload_n hx hb dX0_needPower_0 rfl (lv_at hl 0 rfl) ?_
  refine va_get (D := (dC, dI)) (ci := 0) (v := .int off) (C := RX0) (T := TX0) (N := 12) hx hb hts hin hown hK hP 0 rfl rfl 11 (by decide) (hts (.fieldLink RX0 44 "NestCells" "off" "Z") (by decide +kernel)) (fun _ h9 => h9) rfl dX0_needPower_1 ?_
  refine lv_if_eq (tgt := 17) hx hb dX0_needPower_4 (by decide) (fun h4_0 => absurd h4_0 ho) (fun h4_0 => ?_)
  exact kx_throw (text := "the power is off") (ik := 54) (is := 145) (ic := 58) hx hb hl0 hown hml (by decide +kernel) (hts (.classLink RX0 54 kISE) (by decide +kernel)) (hts (.initialized kISE) (by decide +kernel)) (fun w hw => hts w (by first | exact List.mem_cons_of_mem _ (List.mem_append_right _ hw) | exact List.mem_cons_of_mem _ (List.mem_append_left _ (List.mem_append_right _ hw)))) ky_badS (Or.inl rfl) ky_okS (by decide +kernel) hZ hP hK hD hS hxt hlocks hl.1 dX0_needPower_7 dX0_needPower_10 dX0_needPower_11 dX0_needPower_13 dX0_needPower_16 ⟨Nat.le_of_ble_eq_true rfl, Nat.le_of_ble_eq_true rfl, Nat.le_of_ble_eq_true rfl, Nat.le_of_ble_eq_true rfl⟩
set_option maxHeartbeats 4000000 in
set_option maxRecDepth 100000 in
theorem c_X0_needTransaction_x1 (l : Launch) (hl0 : l.stackTraces = false) (dC : Nat → ClassId) (dI : Nat → Nat → Nat) (cA : ClassId) (h0 q0 q1 q2 q3 q4 q5 : Nat) (w ce nm tl tc tw : Nat → Int32) (T n z : Nat) (wtc wia off : Int32)  (ho : ¬ off = 0) : kMx l yX0_needTransaction wsX0_needTransaction ({ frames := 7, cells := 1, slots := 6, locals := 110 }) dC dI [(cA, .int)] (wX0 cA h0 q0 q1 q2 q3 q4 q5 w ce nm tl tc tw T n z wtc wia off) [.ref h0] kISE := by
  refine kMx_of (cc := cX0_needTransaction) (maxL := 1) (ret := none) (by decide) rfl (Nat.le_of_ble_eq_true rfl) ?_
  intro p e s m below meth c A ls hx hb hml hr hts hown hlocks hA hP hK hD hS hZ hxt hl
  have hin : ∀ w ∈ u_ws RX0 TX0 12, w ∈ wsX0_needTransaction := by decide +kernel
  have hl : lv_has ls 1 [(0, .ref h0)] := hl
  refine lv_aload_n hx hb dX0_needTransaction_0 rfl (lv_at hl 0 rfl) ?_
  exact kx_thru (n := 0) (c_X0_needPower_x l hl0 dC dI cA h0 q0 q1 q2 q3 q4 q5 w ce nm tl tc tw T n z wtc wia off  ho) hx hb hml hown hts gX0_needTransaction_X0_needPower rfl ⟨rfl, rfl⟩ (by decide +kernel) rfl ⟨Nat.le_of_ble_eq_true rfl, Nat.le_of_ble_eq_true rfl, Nat.le_of_ble_eq_true rfl, Nat.le_of_ble_eq_true rfl⟩ hK hP hD hS hA hZ hxt hlocks [0, 1, 2, 3, 4, 5, 6] rfl (q0 := 0) rfl rfl hl.1 rfl (Nat.le_of_ble_eq_true rfl) dX0_needTransaction_1
set_option maxHeartbeats 4000000 in
set_option maxRecDepth 100000 in
theorem c_X0_needTransaction_x2 (l : Launch) (hl0 : l.stackTraces = false) (dC : Nat → ClassId) (dI : Nat → Nat → Nat) (cA : ClassId) (h0 q0 q1 q2 q3 q4 q5 : Nat) (w ce nm tl tc tw : Nat → Int32) (T n z : Nat) (wtc wia off : Int32)  (ho : off = 0) (hT : T = 0) : kMx l yX0_needTransaction wsX0_needTransaction ({ frames := 7, cells := 1, slots := 6, locals := 110 }) dC dI [(cA, .int)] (wX0 cA h0 q0 q1 q2 q3 q4 q5 w ce nm tl tc tw T n z wtc wia off) [.ref h0] kISE := by
  refine kMx_of (cc := cX0_needTransaction) (maxL := 1) (ret := none) (by decide) rfl (Nat.le_of_ble_eq_true rfl) ?_
  intro p e s m below meth c A ls hx hb hml hr hts hown hlocks hA hP hK hD hS hZ hxt hl
  have hin : ∀ w ∈ u_ws RX0 TX0 12, w ∈ wsX0_needTransaction := by decide +kernel
  have hl : lv_has ls 1 [(0, .ref h0)] := hl
  refine lv_aload_n hx hb dX0_needTransaction_0 rfl (lv_at hl 0 rfl) ?_
  refine kv_Vv (Xr := []) (n := 0) (c_X0_needPower l dC dI cA h0 q0 q1 q2 q3 q4 q5 w ce nm tl tc tw T n z wtc wia off  ho) hx hb hml hown hts gX0_needTransaction_X0_needPower rfl ⟨rfl, rfl⟩ (by decide +kernel) rfl ⟨Nat.le_of_ble_eq_true rfl, Nat.le_of_ble_eq_true rfl⟩ hK hP hD hS hA [0] [0, 1, 2, 3, 4, 5, 6] [] rfl rfl rfl (by decide) (by decide) (q0 := 0) rfl rfl rfl (by decide) hl.1 rfl (Nat.le_of_ble_eq_true rfl) dX0_needTransaction_1 ⟨Nat.zero_le _, Nat.zero_le _⟩ (fun H locs hP hD hS => ?_)
  have hP : va_P (dC, dI) vwCl (wX0 cA h0 q0 q1 q2 q3 q4 q5 w ce nm tl tc tw T n z wtc wia off) H := hP
  have hD : va_D A (wX0 cA h0 q0 q1 q2 q3 q4 q5 w ce nm tl tc tw T n z wtc wia off) := hD
  refine lv_aload_n hx hb dX0_needTransaction_4 rfl (lv_at hl 0 rfl) ?_
  refine va_get (D := (dC, dI)) (ci := 0) (v := .int (nI T)) (C := RX0) (T := TX0) (N := 12) hx hb hts hin hown hK hP 0 rfl rfl 6 (by decide) (hts (.fieldLink RX0 51 "NestCells" "transactions" "I") (by decide +kernel)) (fun _ h9 => h9) rfl dX0_needTransaction_5 ?_
  refine kv_if_ne (tgt := 21) hx hb (by omega) dX0_needTransaction_8 (by decide) (fun h8_0 => absurd h8_0 (by omega)) (fun h8_0 => ?_)
  exact kx_throw (text := "there is no transaction") (ik := 54) (is := 147) (ic := 58) hx hb hl0 hown hml (by decide +kernel) (hts (.classLink RX0 54 kISE) (by decide +kernel)) (hts (.initialized kISE) (by decide +kernel)) (fun w hw => hts w (by first | exact List.mem_cons_of_mem _ (List.mem_append_right _ hw) | exact List.mem_cons_of_mem _ (List.mem_append_left _ (List.mem_append_right _ hw)))) ky_badS (Or.inl rfl) ky_okS (by decide +kernel) hZ hP hK hD hS hxt hlocks hl.1 dX0_needTransaction_11 dX0_needTransaction_14 dX0_needTransaction_15 dX0_needTransaction_17 dX0_needTransaction_20 ⟨Nat.le_of_ble_eq_true rfl, Nat.le_of_ble_eq_true rfl, Nat.le_of_ble_eq_true rfl, Nat.le_of_ble_eq_true rfl⟩
theorem c_X0_needTransaction_x (l : Launch) (hl0 : l.stackTraces = false) (dC : Nat → ClassId) (dI : Nat → Nat → Nat) (cA : ClassId) (h0 q0 q1 q2 q3 q4 q5 : Nat) (w ce nm tl tc tw : Nat → Int32) (T n z : Nat) (wtc wia off : Int32)  (hx9 : ¬ off = 0 ∨ T = 0) : kMx l yX0_needTransaction wsX0_needTransaction ({ frames := 7, cells := 1, slots := 6, locals := 110 }) dC dI [(cA, .int)] (wX0 cA h0 q0 q1 q2 q3 q4 q5 w ce nm tl tc tw T n z wtc wia off) [.ref h0] kISE := by
  by_cases ho : off = 0
  · exact c_X0_needTransaction_x2 l hl0 dC dI cA h0 q0 q1 q2 q3 q4 q5 w ce nm tl tc tw T n z wtc wia off ho (hx9.resolve_left (fun q => q ho))
  · exact c_X0_needTransaction_x1 l hl0 dC dI cA h0 q0 q1 q2 q3 q4 q5 w ce nm tl tc tw T n z wtc wia off ho
set_option maxHeartbeats 4000000 in
set_option maxRecDepth 100000 in
theorem c_X0_needCell_x (l : Launch) (hl0 : l.stackTraces = false) (dC : Nat → ClassId) (dI : Nat → Nat → Nat) (cA : ClassId) (h0 q0 q1 q2 q3 q4 q5 : Nat) (w ce nm tl tc tw : Nat → Int32) (T n z : Nat) (wtc wia off : Int32) (cell : Int32) (hc : kx_isCell cell = 0) : kMx l yX0_needCell wsX0_needCell ({ frames := 6, cells := 1, slots := 6, locals := 90 }) dC dI [(cA, .int)] (wX0 cA h0 q0 q1 q2 q3 q4 q5 w ce nm tl tc tw T n z wtc wia off) [.ref h0, .int cell] kIAE := by
  refine kMx_of (cc := cX0_needCell) (maxL := 2) (ret := none) (by decide) rfl (Nat.le_of_ble_eq_true rfl) ?_
  intro p e s m below meth c A ls hx hb hml hr hts hown hlocks hA hP hK hD hS hZ hxt hl
  have hl : lv_has ls 2 [(0, .ref h0), (1, .int cell)] := hl
  refine lv_iload_n hx hb dX0_needCell_0 rfl (lv_at hl 1 rfl) ?_
  refine kv_Si (Xr := wX0 cA h0 q0 q1 q2 q3 q4 q5 w ce nm tl tc tw T n z wtc wia off) (n := 1) (c_X0_isCell l dC dI   cell ) hx hb hml hown hts gX0_needCell_X0_isCell rfl ⟨rfl, rfl⟩ (by decide +kernel) rfl ⟨Nat.le_of_ble_eq_true rfl, Nat.le_of_ble_eq_true rfl⟩ hK hP hD hS hA [] [] [0, 1, 2, 3, 4, 5, 6] rfl rfl rfl (by decide) (by decide) rfl (by decide) hl.1 rfl (Nat.le_of_ble_eq_true rfl) dX0_needCell_1 ⟨Nat.zero_le _, Nat.zero_le _⟩ (fun H locs hP hD hS => ?_)
  have hP : va_P (dC, dI) vwCl (wX0 cA h0 q0 q1 q2 q3 q4 q5 w ce nm tl tc tw T n z wtc wia off) H := hP
  have hD : va_D A (wX0 cA h0 q0 q1 q2 q3 q4 q5 w ce nm tl tc tw T n z wtc wia off) := hD
  refine lv_if_ne (tgt := 17) hx hb dX0_needCell_4 (by decide) (fun h4_0 => absurd h4_0 (fun q => q hc)) (fun h4_0 => ?_)
  exact kx_throw (text := "no such cell") (ik := 131) (is := 153) (ic := 135) hx hb hl0 hown hml (by decide +kernel) (hts (.classLink RX0 131 kIAE) (by decide +kernel)) (hts (.initialized kIAE) (by decide +kernel)) (fun w hw => hts w (by first | exact List.mem_cons_of_mem _ (List.mem_append_right _ hw) | exact List.mem_cons_of_mem _ (List.mem_append_left _ (List.mem_append_right _ hw)))) ky_badA (Or.inr rfl) ky_okA (by decide +kernel) hZ hP hK hD hS hxt hlocks hl.1 dX0_needCell_7 dX0_needCell_10 dX0_needCell_11 dX0_needCell_13 dX0_needCell_16 ⟨Nat.le_of_ble_eq_true rfl, Nat.le_of_ble_eq_true rfl, Nat.le_of_ble_eq_true rfl, Nat.le_of_ble_eq_true rfl⟩
set_option maxHeartbeats 4000000 in
set_option maxRecDepth 100000 in
theorem c_X0_needWord_x (l : Launch) (hl0 : l.stackTraces = false) (dC : Nat → ClassId) (dI : Nat → Nat → Nat) (cA : ClassId) (h0 q0 q1 q2 q3 q4 q5 : Nat) (w ce nm tl tc tw : Nat → Int32) (T n z : Nat) (wtc wia off : Int32) (i : Int32) (hw : i < 0 ∨ ¬ i < nI 98) : kMx l yX0_needWord wsX0_needWord ({ frames := 6, cells := 1, slots := 6, locals := 90 }) dC dI [(cA, .int)] (wX0 cA h0 q0 q1 q2 q3 q4 q5 w ce nm tl tc tw T n z wtc wia off) [.ref h0, .int i] kIAE := by
  refine kMx_of (cc := cX0_needWord) (maxL := 2) (ret := none) (by decide) rfl (Nat.le_of_ble_eq_true rfl) ?_
  intro p e s m below meth c A ls hx hb hml hr hts hown hlocks hA hP hK hD hS hZ hxt hl
  have hl : lv_has ls 2 [(0, .ref h0), (1, .int i)] := hl
  refine lv_iload_n hx hb dX0_needWord_0 rfl (lv_at hl 1 rfl) ?_
  refine lv_if_lt (tgt := 10) hx hb dX0_needWord_1 (by decide) (fun h1_0 => ?_) (fun h1_0 => ?_)
  · skip
    exact kx_throw (text := "no such word") (ik := 131) (is := 155) (ic := 135) hx hb hl0 hown hml (by decide +kernel) (hts (.classLink RX0 131 kIAE) (by decide +kernel)) (hts (.initialized kIAE) (by decide +kernel)) (fun w hw => hts w (by first | exact List.mem_cons_of_mem _ (List.mem_append_right _ hw) | exact List.mem_cons_of_mem _ (List.mem_append_left _ (List.mem_append_right _ hw)))) ky_badA (Or.inr rfl) ky_okA (by decide +kernel) hZ hP hK hD hS hxt hlocks hl.1 dX0_needWord_10 dX0_needWord_13 dX0_needWord_14 dX0_needWord_16 dX0_needWord_19 ⟨Nat.le_of_ble_eq_true rfl, Nat.le_of_ble_eq_true rfl, Nat.le_of_ble_eq_true rfl, Nat.le_of_ble_eq_true rfl⟩
  · skip
    refine lv_iload_n hx hb dX0_needWord_4 rfl (lv_at hl 1 rfl) ?_
    refine lv_bipush (v := (nI 98)) hx hb dX0_needWord_5 (by decide) ?_
    refine lv_icmp_lt (tgt := 20) hx hb dX0_needWord_7 (by decide) (fun h7_1 => ((hw.elim h1_0 (fun q => q h7_1))).elim) (fun h7_1 => ?_)
    exact kx_throw (text := "no such word") (ik := 131) (is := 155) (ic := 135) hx hb hl0 hown hml (by decide +kernel) (hts (.classLink RX0 131 kIAE) (by decide +kernel)) (hts (.initialized kIAE) (by decide +kernel)) (fun w hw => hts w (by first | exact List.mem_cons_of_mem _ (List.mem_append_right _ hw) | exact List.mem_cons_of_mem _ (List.mem_append_left _ (List.mem_append_right _ hw)))) ky_badA (Or.inr rfl) ky_okA (by decide +kernel) hZ hP hK hD hS hxt hlocks hl.1 dX0_needWord_10 dX0_needWord_13 dX0_needWord_14 dX0_needWord_16 dX0_needWord_19 ⟨Nat.le_of_ble_eq_true rfl, Nat.le_of_ble_eq_true rfl, Nat.le_of_ble_eq_true rfl, Nat.le_of_ble_eq_true rfl⟩
set_option maxHeartbeats 4000000 in
set_option maxRecDepth 100000 in
theorem c_X0_needName_x (l : Launch) (hl0 : l.stackTraces = false) (dC : Nat → ClassId) (dI : Nat → Nat → Nat) (cA : ClassId) (h0 q0 q1 q2 q3 q4 q5 : Nat) (w ce nm tl tc tw : Nat → Int32) (T n z : Nat) (wtc wia off : Int32) (name : Int32) (hw : name < 0 ∨ ¬ name < nI 10) : kMx l yX0_needName wsX0_needName ({ frames := 6, cells := 1, slots := 6, locals := 90 }) dC dI [(cA, .int)] (wX0 cA h0 q0 q1 q2 q3 q4 q5 w ce nm tl tc tw T n z wtc wia off) [.ref h0, .int name] kIAE := by
  refine kMx_of (cc := cX0_needName) (maxL := 2) (ret := none) (by decide) rfl (Nat.le_of_ble_eq_true rfl) ?_
  intro p e s m below meth c A ls hx hb hml hr hts hown hlocks hA hP hK hD hS hZ hxt hl
  have hl : lv_has ls 2 [(0, .ref h0), (1, .int name)] := hl
  refine lv_iload_n hx hb dX0_needName_0 rfl (lv_at hl 1 rfl) ?_
  refine lv_if_lt (tgt := 10) hx hb dX0_needName_1 (by decide) (fun h1_0 => ?_) (fun h1_0 => ?_)
  · skip
    exact kx_throw (text := "no such name") (ik := 131) (is := 157) (ic := 135) hx hb hl0 hown hml (by decide +kernel) (hts (.classLink RX0 131 kIAE) (by decide +kernel)) (hts (.initialized kIAE) (by decide +kernel)) (fun w hw => hts w (by first | exact List.mem_cons_of_mem _ (List.mem_append_right _ hw) | exact List.mem_cons_of_mem _ (List.mem_append_left _ (List.mem_append_right _ hw)))) ky_badA (Or.inr rfl) ky_okA (by decide +kernel) hZ hP hK hD hS hxt hlocks hl.1 dX0_needName_10 dX0_needName_13 dX0_needName_14 dX0_needName_16 dX0_needName_19 ⟨Nat.le_of_ble_eq_true rfl, Nat.le_of_ble_eq_true rfl, Nat.le_of_ble_eq_true rfl, Nat.le_of_ble_eq_true rfl⟩
  · skip
    refine lv_iload_n hx hb dX0_needName_4 rfl (lv_at hl 1 rfl) ?_
    refine lv_bipush (v := (nI 10)) hx hb dX0_needName_5 (by decide) ?_
    refine lv_icmp_lt (tgt := 20) hx hb dX0_needName_7 (by decide) (fun h7_1 => ((hw.elim h1_0 (fun q => q h7_1))).elim) (fun h7_1 => ?_)
    exact kx_throw (text := "no such name") (ik := 131) (is := 157) (ic := 135) hx hb hl0 hown hml (by decide +kernel) (hts (.classLink RX0 131 kIAE) (by decide +kernel)) (hts (.initialized kIAE) (by decide +kernel)) (fun w hw => hts w (by first | exact List.mem_cons_of_mem _ (List.mem_append_right _ hw) | exact List.mem_cons_of_mem _ (List.mem_append_left _ (List.mem_append_right _ hw)))) ky_badA (Or.inr rfl) ky_okA (by decide +kernel) hZ hP hK hD hS hxt hlocks hl.1 dX0_needName_10 dX0_needName_13 dX0_needName_14 dX0_needName_16 dX0_needName_19 ⟨Nat.le_of_ble_eq_true rfl, Nat.le_of_ble_eq_true rfl, Nat.le_of_ble_eq_true rfl, Nat.le_of_ble_eq_true rfl⟩
set_option maxHeartbeats 4000000 in
set_option maxRecDepth 100000 in
theorem c_X0_needPoint_x (l : Launch) (hl0 : l.stackTraces = false) (dC : Nat → ClassId) (dI : Nat → Nat → Nat) (cA : ClassId) (h0 q0 q1 q2 q3 q4 q5 : Nat) (w ce nm tl tc tw : Nat → Int32) (T n z : Nat) (wtc wia off : Int32) (name : Nat) (hn : n ≤ 88) (hpl : kx_pl nm (nI name) (kx_inn nm n) n = 0) : kMx l yX0_needPoint wsX0_needPoint ({ frames := 6, cells := 1, slots := 6, locals := 90 }) dC dI [(cA, .int)] (wX0 cA h0 q0 q1 q2 q3 q4 q5 w ce nm tl tc tw T n z wtc wia off) [.ref h0, .int (nI name)] kIAE := by
  refine kMx_of (cc := cX0_needPoint) (maxL := 3) (ret := (some .int)) (by decide) rfl (Nat.le_of_ble_eq_true rfl) ?_
  intro p e s m below meth c A ls hx hb hml hr hts hown hlocks hA hP hK hD hS hZ hxt hl
  have hl : lv_has ls 3 [(0, .ref h0), (1, .int (nI name))] := hl
  refine lv_aload_n hx hb dX0_needPoint_0 rfl (lv_at hl 0 rfl) ?_
  refine lv_iload_n hx hb dX0_needPoint_1 rfl (lv_at hl 1 rfl) ?_
  refine kv_Vi (Xr := []) (n := 1) (c_X0_pointLevel l dC dI cA h0 q0 q1 q2 q3 q4 q5 w ce nm tl tc tw T n z wtc wia off (nI name) hn) hx hb hml hown hts gX0_needPoint_X0_pointLevel rfl ⟨rfl, rfl⟩ (by decide +kernel) rfl ⟨Nat.le_of_ble_eq_true rfl, Nat.le_of_ble_eq_true rfl⟩ hK hP hD hS hA [0] [0, 1, 2, 3, 4, 5, 6] [] rfl rfl rfl (by decide) (by decide) (q0 := 0) rfl rfl rfl (by decide) hl.1 rfl (Nat.le_of_ble_eq_true rfl) dX0_needPoint_2 ⟨Nat.zero_le _, Nat.zero_le _⟩ (fun H locs hP hD hS => ?_)
  have hP : va_P (dC, dI) vwCl (wX0 cA h0 q0 q1 q2 q3 q4 q5 w ce nm tl tc tw T n z wtc wia off) H := hP
  have hD : va_D A (wX0 cA h0 q0 q1 q2 q3 q4 q5 w ce nm tl tc tw T n z wtc wia off) := hD
  refine kv_top (w := .int (-1)) (by rw [hpl]; exact congrArg Value.int kv_m1) ?_
  refine lv_istore_n (lv' := [(2, .int (-1)), (0, .ref h0), (1, .int (nI name))]) hx hb dX0_needPoint_5 rfl hl (by decide) rfl (fun ls hl => ?_)
  refine lv_iload_n hx hb dX0_needPoint_6 rfl (lv_at hl 0 rfl) ?_
  refine lv_iconst (v := (-1)) hx hb dX0_needPoint_7 (by decide) ?_
  refine lv_icmp_ne (tgt := 21) hx hb dX0_needPoint_8 (by decide) (fun h8_0 => absurd h8_0 (fun q => q rfl)) (fun h8_0 => ?_)
  exact kx_throw (text := "no such point") (ik := 131) (is := 159) (ic := 135) hx hb hl0 hown hml (by decide +kernel) (hts (.classLink RX0 131 kIAE) (by decide +kernel)) (hts (.initialized kIAE) (by decide +kernel)) (fun w hw => hts w (by first | exact List.mem_cons_of_mem _ (List.mem_append_right _ hw) | exact List.mem_cons_of_mem _ (List.mem_append_left _ (List.mem_append_right _ hw)))) ky_badA (Or.inr rfl) ky_okA (by decide +kernel) hZ hP hK hD hS hxt hlocks hl.1 dX0_needPoint_11 dX0_needPoint_14 dX0_needPoint_15 dX0_needPoint_17 dX0_needPoint_20 ⟨Nat.le_of_ble_eq_true rfl, Nat.le_of_ble_eq_true rfl, Nat.le_of_ble_eq_true rfl, Nat.le_of_ble_eq_true rfl⟩
set_option maxHeartbeats 4000000 in
set_option maxRecDepth 100000 in
theorem c_X0_begin_x1 (l : Launch) (hl0 : l.stackTraces = false) (dC : Nat → ClassId) (dI : Nat → Nat → Nat) (cA : ClassId) (h0 q0 q1 q2 q3 q4 q5 : Nat) (w ce nm tl tc tw : Nat → Int32) (T n z : Nat) (wtc wia off : Int32)  (ho : ¬ off = 0) : kMx l yX0_begin wsX0_begin ({ frames := 7, cells := 1, slots := 6, locals := 110 }) dC dI [(cA, .int)] (wX0 cA h0 q0 q1 q2 q3 q4 q5 w ce nm tl tc tw T n z wtc wia off) [.ref h0] kISE := by
  refine kMx_of (cc := cX0_begin) (maxL := 1) (ret := (some .int)) (by decide) rfl (Nat.le_of_ble_eq_true rfl) ?_
  intro p e s m below meth c A ls hx hb hml hr hts hown hlocks hA hP hK hD hS hZ hxt hl
  have hin : ∀ w ∈ u_ws RX0 TX0 12, w ∈ wsX0_begin := by decide +kernel
  have hl : lv_has ls 1 [(0, .ref h0)] := hl
  refine lv_aload_n hx hb dX0_begin_0 rfl (lv_at hl 0 rfl) ?_
  exact kx_thru (n := 0) (c_X0_needPower_x l hl0 dC dI cA h0 q0 q1 q2 q3 q4 q5 w ce nm tl tc tw T n z wtc wia off  ho) hx hb hml hown hts gX0_begin_X0_needPower rfl ⟨rfl, rfl⟩ (by decide +kernel) rfl ⟨Nat.le_of_ble_eq_true rfl, Nat.le_of_ble_eq_true rfl, Nat.le_of_ble_eq_true rfl, Nat.le_of_ble_eq_true rfl⟩ hK hP hD hS hA hZ hxt hlocks [0, 1, 2, 3, 4, 5, 6] rfl (q0 := 0) rfl rfl hl.1 rfl (Nat.le_of_ble_eq_true rfl) dX0_begin_1
set_option maxHeartbeats 4000000 in
set_option maxRecDepth 100000 in
theorem c_X0_begin_x2 (l : Launch) (hl0 : l.stackTraces = false) (dC : Nat → ClassId) (dI : Nat → Nat → Nat) (cA : ClassId) (h0 q0 q1 q2 q3 q4 q5 : Nat) (w ce nm tl tc tw : Nat → Int32) (T n z : Nat) (wtc wia off : Int32)  (ho : off = 0) (hT : T = 8) : kMx l yX0_begin wsX0_begin ({ frames := 7, cells := 1, slots := 6, locals := 110 }) dC dI [(cA, .int)] (wX0 cA h0 q0 q1 q2 q3 q4 q5 w ce nm tl tc tw T n z wtc wia off) [.ref h0] kISE := by
  refine kMx_of (cc := cX0_begin) (maxL := 1) (ret := (some .int)) (by decide) rfl (Nat.le_of_ble_eq_true rfl) ?_
  intro p e s m below meth c A ls hx hb hml hr hts hown hlocks hA hP hK hD hS hZ hxt hl
  have hin : ∀ w ∈ u_ws RX0 TX0 12, w ∈ wsX0_begin := by decide +kernel
  have hl : lv_has ls 1 [(0, .ref h0)] := hl
  refine lv_aload_n hx hb dX0_begin_0 rfl (lv_at hl 0 rfl) ?_
  refine kv_Vv (Xr := []) (n := 0) (c_X0_needPower l dC dI cA h0 q0 q1 q2 q3 q4 q5 w ce nm tl tc tw T n z wtc wia off  ho) hx hb hml hown hts gX0_begin_X0_needPower rfl ⟨rfl, rfl⟩ (by decide +kernel) rfl ⟨Nat.le_of_ble_eq_true rfl, Nat.le_of_ble_eq_true rfl⟩ hK hP hD hS hA [0] [0, 1, 2, 3, 4, 5, 6] [] rfl rfl rfl (by decide) (by decide) (q0 := 0) rfl rfl rfl (by decide) hl.1 rfl (Nat.le_of_ble_eq_true rfl) dX0_begin_1 ⟨Nat.zero_le _, Nat.zero_le _⟩ (fun H locs hP hD hS => ?_)
  have hP : va_P (dC, dI) vwCl (wX0 cA h0 q0 q1 q2 q3 q4 q5 w ce nm tl tc tw T n z wtc wia off) H := hP
  have hD : va_D A (wX0 cA h0 q0 q1 q2 q3 q4 q5 w ce nm tl tc tw T n z wtc wia off) := hD
  refine lv_aload_n hx hb dX0_begin_4 rfl (lv_at hl 0 rfl) ?_
  refine va_get (D := (dC, dI)) (ci := 0) (v := .int (nI T)) (C := RX0) (T := TX0) (N := 12) hx hb hts hin hown hK hP 0 rfl rfl 6 (by decide) (hts (.fieldLink RX0 51 "NestCells" "transactions" "I") (by decide +kernel)) (fun _ h9 => h9) rfl dX0_begin_5 ?_
  refine lv_bipush (v := (nI 8)) hx hb dX0_begin_8 (by decide) ?_
  refine kv_ne (tgt := 23) hx hb (by omega) (by omega) dX0_begin_10 (by decide) (fun h10_0 => absurd h10_0 (by omega)) (fun h10_0 => ?_)
  exact kx_throw (text := "there are 8 transactions") (ik := 54) (is := 56) (ic := 58) hx hb hl0 hown hml (by decide +kernel) (hts (.classLink RX0 54 kISE) (by decide +kernel)) (hts (.initialized kISE) (by decide +kernel)) (fun w hw => hts w (by first | exact List.mem_cons_of_mem _ (List.mem_append_right _ hw) | exact List.mem_cons_of_mem _ (List.mem_append_left _ (List.mem_append_right _ hw)))) ky_badS (Or.inl rfl) ky_okS (by decide +kernel) hZ hP hK hD hS hxt hlocks hl.1 dX0_begin_13 dX0_begin_16 dX0_begin_17 dX0_begin_19 dX0_begin_22 ⟨Nat.le_of_ble_eq_true rfl, Nat.le_of_ble_eq_true rfl, Nat.le_of_ble_eq_true rfl, Nat.le_of_ble_eq_true rfl⟩
set_option maxHeartbeats 4000000 in
set_option maxRecDepth 100000 in
theorem c_X0_write_xa (l : Launch) (hl0 : l.stackTraces = false) (dC : Nat → ClassId) (dI : Nat → Nat → Nat) (cA : ClassId) (h0 q0 q1 q2 q3 q4 q5 : Nat) (w ce nm tl tc tw : Nat → Int32) (T n z : Nat) (wtc wia off : Int32) (cell : Int32) (v : Int32) (hc : kx_isCell cell = 0) : kMx l yX0_write wsX0_write ({ frames := 8, cells := 1, slots := 6, locals := 130 }) dC dI [(cA, .int)] (wX0 cA h0 q0 q1 q2 q3 q4 q5 w ce nm tl tc tw T n z wtc wia off) [.ref h0, .int cell, .int v] kIAE := by
  refine kMx_of (cc := cX0_write) (maxL := 5) (ret := (some .int)) (by decide) rfl (Nat.le_of_ble_eq_true rfl) ?_
  intro p e s m below meth c A ls hx hb hml hr hts hown hlocks hA hP hK hD hS hZ hxt hl
  have hin : ∀ w ∈ u_ws RX0 TX0 12, w ∈ wsX0_write := by decide +kernel
  have hl : lv_has ls 5 [(0, .ref h0), (1, .int cell), (2, .int v)] := hl
  refine lv_aload_n hx hb dX0_write_0 rfl (lv_at hl 0 rfl) ?_
  refine lv_iload_n hx hb dX0_write_1 rfl (lv_at hl 1 rfl) ?_
  exact kx_thru (n := 1) (c_X0_needCell_x l hl0 dC dI cA h0 q0 q1 q2 q3 q4 q5 w ce nm tl tc tw T n z wtc wia off cell hc) hx hb hml hown hts gX0_write_X0_needCell rfl ⟨rfl, rfl⟩ (by decide +kernel) rfl ⟨Nat.le_of_ble_eq_true rfl, Nat.le_of_ble_eq_true rfl, Nat.le_of_ble_eq_true rfl, Nat.le_of_ble_eq_true rfl⟩ hK hP hD hS hA hZ hxt hlocks [0, 1, 2, 3, 4, 5, 6] rfl (q0 := 0) rfl rfl hl.1 rfl (Nat.le_of_ble_eq_true rfl) dX0_write_2
set_option maxHeartbeats 4000000 in
set_option maxRecDepth 100000 in
theorem c_X0_write_xb (l : Launch) (hl0 : l.stackTraces = false) (dC : Nat → ClassId) (dI : Nat → Nat → Nat) (cA : ClassId) (h0 q0 q1 q2 q3 q4 q5 : Nat) (w ce nm tl tc tw : Nat → Int32) (T n z : Nat) (wtc wia off : Int32) (cell : Nat) (v : Int32) (hc : cell < 32) (hx9 : ¬ off = 0 ∨ T = 0) : kMx l yX0_write wsX0_write ({ frames := 8, cells := 1, slots := 6, locals := 130 }) dC dI [(cA, .int)] (wX0 cA h0 q0 q1 q2 q3 q4 q5 w ce nm tl tc tw T n z wtc wia off) [.ref h0, .int (nI cell), .int v] kISE := by
  refine kMx_of (cc := cX0_write) (maxL := 5) (ret := (some .int)) (by decide) rfl (Nat.le_of_ble_eq_true rfl) ?_
  intro p e s m below meth c A ls hx hb hml hr hts hown hlocks hA hP hK hD hS hZ hxt hl
  have hin : ∀ w ∈ u_ws RX0 TX0 12, w ∈ wsX0_write := by decide +kernel
  have hl : lv_has ls 5 [(0, .ref h0), (1, .int (nI cell)), (2, .int v)] := hl
  refine lv_aload_n hx hb dX0_write_0 rfl (lv_at hl 0 rfl) ?_
  refine lv_iload_n hx hb dX0_write_1 rfl (lv_at hl 1 rfl) ?_
  refine kv_Vv (Xr := []) (n := 1) (c_X0_needCell l dC dI cA h0 q0 q1 q2 q3 q4 q5 w ce nm tl tc tw T n z wtc wia off cell (by omega)) hx hb hml hown hts gX0_write_X0_needCell rfl ⟨rfl, rfl⟩ (by decide +kernel) rfl ⟨Nat.le_of_ble_eq_true rfl, Nat.le_of_ble_eq_true rfl⟩ hK hP hD hS hA [0] [0, 1, 2, 3, 4, 5, 6] [] rfl rfl rfl (by decide) (by decide) (q0 := 0) rfl rfl rfl (by decide) hl.1 rfl (Nat.le_of_ble_eq_true rfl) dX0_write_2 ⟨Nat.zero_le _, Nat.zero_le _⟩ (fun H locs hP hD hS => ?_)
  have hP : va_P (dC, dI) vwCl (wX0 cA h0 q0 q1 q2 q3 q4 q5 w ce nm tl tc tw T n z wtc wia off) H := hP
  have hD : va_D A (wX0 cA h0 q0 q1 q2 q3 q4 q5 w ce nm tl tc tw T n z wtc wia off) := hD
  refine lv_aload_n hx hb dX0_write_5 rfl (lv_at hl 0 rfl) ?_
  exact kx_thru (n := 0) (c_X0_needTransaction_x l hl0 dC dI cA h0 q0 q1 q2 q3 q4 q5 w ce nm tl tc tw T n z wtc wia off  hx9) hx hb hml hown hts gX0_write_X0_needTransaction rfl ⟨rfl, rfl⟩ (by decide +kernel) rfl ⟨Nat.le_of_ble_eq_true rfl, Nat.le_of_ble_eq_true rfl, Nat.le_of_ble_eq_true rfl, Nat.le_of_ble_eq_true rfl⟩ hK hP hD hS hA hZ hxt hlocks [0, 1, 2, 3, 4, 5, 6] rfl (q0 := 0) rfl rfl hl.1 rfl (Nat.le_of_ble_eq_true rfl) dX0_write_6
set_option maxHeartbeats 4000000 in
set_option maxRecDepth 100000 in
theorem c_X0_write_xc (l : Launch) (hl0 : l.stackTraces = false) (dC : Nat → ClassId) (dI : Nat → Nat → Nat) (cA : ClassId) (h0 q0 q1 q2 q3 q4 q5 : Nat) (w ce nm tl tc tw : Nat → Int32) (T n z : Nat) (wtc wia off : Int32) (cell : Nat) (v : Int32) (hc : cell < 32) (ho : off = 0) (hT : 0 < T) (hT8 : T ≤ 8) (hz : z ≤ 60) (hn1 : 1 ≤ n) (hn : n ≤ 88) (hh : kx_holds (kx_tc tl tc (nI (n - 1)) z) (nI cell) = 0) (hz2 : z = 60) : kMx l yX0_write wsX0_write ({ frames := 8, cells := 1, slots := 6, locals := 130 }) dC dI [(cA, .int)] (wX0 cA h0 q0 q1 q2 q3 q4 q5 w ce nm tl tc tw T n z wtc wia off) [.ref h0, .int (nI cell), .int v] kISE := by
  refine kMx_of (cc := cX0_write) (maxL := 5) (ret := (some .int)) (by decide) rfl (Nat.le_of_ble_eq_true rfl) ?_
  intro p e s m below meth c A ls hx hb hml hr hts hown hlocks hA hP hK hD hS hZ hxt hl
  have hin : ∀ w ∈ u_ws RX0 TX0 12, w ∈ wsX0_write := by decide +kernel
  have hl : lv_has ls 5 [(0, .ref h0), (1, .int (nI cell)), (2, .int v)] := hl
  refine lv_aload_n hx hb dX0_write_0 rfl (lv_at hl 0 rfl) ?_
  refine lv_iload_n hx hb dX0_write_1 rfl (lv_at hl 1 rfl) ?_
  refine kv_Vv (Xr := []) (n := 1) (c_X0_needCell l dC dI cA h0 q0 q1 q2 q3 q4 q5 w ce nm tl tc tw T n z wtc wia off cell (by omega)) hx hb hml hown hts gX0_write_X0_needCell rfl ⟨rfl, rfl⟩ (by decide +kernel) rfl ⟨Nat.le_of_ble_eq_true rfl, Nat.le_of_ble_eq_true rfl⟩ hK hP hD hS hA [0] [0, 1, 2, 3, 4, 5, 6] [] rfl rfl rfl (by decide) (by decide) (q0 := 0) rfl rfl rfl (by decide) hl.1 rfl (Nat.le_of_ble_eq_true rfl) dX0_write_2 ⟨Nat.zero_le _, Nat.zero_le _⟩ (fun H locs hP hD hS => ?_)
  have hP : va_P (dC, dI) vwCl (wX0 cA h0 q0 q1 q2 q3 q4 q5 w ce nm tl tc tw T n z wtc wia off) H := hP
  have hD : va_D A (wX0 cA h0 q0 q1 q2 q3 q4 q5 w ce nm tl tc tw T n z wtc wia off) := hD
  refine lv_aload_n hx hb dX0_write_5 rfl (lv_at hl 0 rfl) ?_
  refine kv_Vv (Xr := []) (n := 0) (c_X0_needTransaction l dC dI cA h0 q0 q1 q2 q3 q4 q5 w ce nm tl tc tw T n z wtc wia off  ho hT hT8) hx hb hml hown hts gX0_write_X0_needTransaction rfl ⟨rfl, rfl⟩ (by decide +kernel) rfl ⟨Nat.le_of_ble_eq_true rfl, Nat.le_of_ble_eq_true rfl⟩ hK hP hD hS hA [0] [0, 1, 2, 3, 4, 5, 6] [] rfl rfl rfl (by decide) (by decide) (q0 := 0) rfl rfl rfl (by decide) hl.1 rfl (Nat.le_of_ble_eq_true rfl) dX0_write_6 ⟨Nat.zero_le _, Nat.zero_le _⟩ (fun H locs hP hD hS => ?_)
  have hP : va_P (dC, dI) vwCl (wX0 cA h0 q0 q1 q2 q3 q4 q5 w ce nm tl tc tw T n z wtc wia off) H := hP
  have hD : va_D A (wX0 cA h0 q0 q1 q2 q3 q4 q5 w ce nm tl tc tw T n z wtc wia off) := hD
  refine lv_aload_n hx hb dX0_write_9 rfl (lv_at hl 0 rfl) ?_
  refine va_get (D := (dC, dI)) (ci := 0) (v := .int (nI n)) (C := RX0) (T := TX0) (N := 12) hx hb hts hin hown hK hP 0 rfl rfl 7 (by decide) (hts (.fieldLink RX0 71 "NestCells" "levels" "I") (by decide +kernel)) (fun _ h9 => h9) rfl dX0_write_10 ?_
  refine lv_iconst (v := (nI 1)) hx hb dX0_write_13 (by decide) ?_
  refine kv_subE (d := n - 1) hx hb (by omega) dX0_write_14 ?_
  refine lv_istore_n (lv' := [(3, .int (nI (n - 1))), (0, .ref h0), (1, .int (nI cell)), (2, .int v)]) hx hb dX0_write_15 rfl hl (by decide) rfl (fun ls hl => ?_)
  refine lv_aload_n hx hb dX0_write_16 rfl (lv_at hl 1 rfl) ?_
  refine lv_iload_n hx hb dX0_write_17 rfl (lv_at hl 0 rfl) ?_
  refine kv_Vi (Xr := []) (n := 1) (c_X0_tracedCells l dC dI cA h0 q0 q1 q2 q3 q4 q5 w ce nm tl tc tw T n z wtc wia off (nI (n - 1)) (by omega)) hx hb hml hown hts gX0_write_X0_tracedCells rfl ⟨rfl, rfl⟩ (by decide +kernel) rfl ⟨Nat.le_of_ble_eq_true rfl, Nat.le_of_ble_eq_true rfl⟩ hK hP hD hS hA [0] [0, 1, 2, 3, 4, 5, 6] [] rfl rfl rfl (by decide) (by decide) (q0 := 0) rfl rfl rfl (by decide) hl.1 rfl (Nat.le_of_ble_eq_true rfl) dX0_write_18 ⟨Nat.zero_le _, Nat.zero_le _⟩ (fun H locs hP hD hS => ?_)
  have hP : va_P (dC, dI) vwCl (wX0 cA h0 q0 q1 q2 q3 q4 q5 w ce nm tl tc tw T n z wtc wia off) H := hP
  have hD : va_D A (wX0 cA h0 q0 q1 q2 q3 q4 q5 w ce nm tl tc tw T n z wtc wia off) := hD
  refine lv_iload_n hx hb dX0_write_21 rfl (lv_at hl 2 rfl) ?_
  refine kv_Si (Xr := wX0 cA h0 q0 q1 q2 q3 q4 q5 w ce nm tl tc tw T n z wtc wia off) (n := 2) (c_X0_holds l dC dI   (kx_tc tl tc (nI (n - 1)) z) (nI cell) ) hx hb hml hown hts gX0_write_X0_holds rfl ⟨rfl, rfl⟩ (by decide +kernel) rfl ⟨Nat.le_of_ble_eq_true rfl, Nat.le_of_ble_eq_true rfl⟩ hK hP hD hS hA [] [] [0, 1, 2, 3, 4, 5, 6] rfl rfl rfl (by decide) (by decide) rfl (by decide) hl.1 rfl (Nat.le_of_ble_eq_true rfl) dX0_write_22 ⟨Nat.zero_le _, Nat.zero_le _⟩ (fun H locs hP hD hS => ?_)
  have hP : va_P (dC, dI) vwCl (wX0 cA h0 q0 q1 q2 q3 q4 q5 w ce nm tl tc tw T n z wtc wia off) H := hP
  have hD : va_D A (wX0 cA h0 q0 q1 q2 q3 q4 q5 w ce nm tl tc tw T n z wtc wia off) := hD
  refine lv_if_ne (tgt := 53) hx hb dX0_write_25 (by decide) (fun h25_0 => absurd h25_0 (fun q => q hh)) (fun h25_0 => ?_)
  refine lv_aload_n hx hb dX0_write_28 rfl (lv_at hl 1 rfl) ?_
  refine va_get (D := (dC, dI)) (ci := 0) (v := .int (nI z)) (C := RX0) (T := TX0) (N := 12) hx hb hts hin hown hK hP 0 rfl rfl 8 (by decide) (hts (.fieldLink RX0 82 "NestCells" "traces" "I") (by decide +kernel)) (fun _ h9 => h9) rfl dX0_write_29 ?_
  refine lv_bipush (v := (nI 60)) hx hb dX0_write_32 (by decide) ?_
  refine kv_ne (tgt := 47) hx hb (by omega) (by omega) dX0_write_34 (by decide) (fun h34_0 => absurd h34_0 (by omega)) (fun h34_0 => ?_)
  exact kx_throw (text := "there are 60 traces") (ik := 54) (is := 85) (ic := 58) hx hb hl0 hown hml (by decide +kernel) (hts (.classLink RX0 54 kISE) (by decide +kernel)) (hts (.initialized kISE) (by decide +kernel)) (fun w hw => hts w (by first | exact List.mem_cons_of_mem _ (List.mem_append_right _ hw) | exact List.mem_cons_of_mem _ (List.mem_append_left _ (List.mem_append_right _ hw)))) ky_badS (Or.inl rfl) ky_okS (by decide +kernel) hZ hP hK hD hS hxt hlocks hl.1 dX0_write_37 dX0_write_40 dX0_write_41 dX0_write_43 dX0_write_46 ⟨Nat.le_of_ble_eq_true rfl, Nat.le_of_ble_eq_true rfl, Nat.le_of_ble_eq_true rfl, Nat.le_of_ble_eq_true rfl⟩
set_option maxHeartbeats 4000000 in
set_option maxRecDepth 100000 in
theorem c_X0_read_xa (l : Launch) (hl0 : l.stackTraces = false) (dC : Nat → ClassId) (dI : Nat → Nat → Nat) (cA : ClassId) (h0 q0 q1 q2 q3 q4 q5 : Nat) (w ce nm tl tc tw : Nat → Int32) (T n z : Nat) (wtc wia off : Int32) (cell : Int32) (hc : kx_isCell cell = 0) : kMx l yX0_read wsX0_read ({ frames := 7, cells := 1, slots := 6, locals := 111 }) dC dI [(cA, .int)] (wX0 cA h0 q0 q1 q2 q3 q4 q5 w ce nm tl tc tw T n z wtc wia off) [.ref h0, .int cell] kIAE := by
  refine kMx_of (cc := cX0_read) (maxL := 2) (ret := (some .int)) (by decide) rfl (Nat.le_of_ble_eq_true rfl) ?_
  intro p e s m below meth c A ls hx hb hml hr hts hown hlocks hA hP hK hD hS hZ hxt hl
  have hin : ∀ w ∈ u_ws RX0 TX0 12, w ∈ wsX0_read := by decide +kernel
  have hl : lv_has ls 2 [(0, .ref h0), (1, .int cell)] := hl
  refine lv_aload_n hx hb dX0_read_0 rfl (lv_at hl 0 rfl) ?_
  refine lv_iload_n hx hb dX0_read_1 rfl (lv_at hl 1 rfl) ?_
  exact kx_thru (n := 1) (c_X0_needCell_x l hl0 dC dI cA h0 q0 q1 q2 q3 q4 q5 w ce nm tl tc tw T n z wtc wia off cell hc) hx hb hml hown hts gX0_read_X0_needCell rfl ⟨rfl, rfl⟩ (by decide +kernel) rfl ⟨Nat.le_of_ble_eq_true rfl, Nat.le_of_ble_eq_true rfl, Nat.le_of_ble_eq_true rfl, Nat.le_of_ble_eq_true rfl⟩ hK hP hD hS hA hZ hxt hlocks [0, 1, 2, 3, 4, 5, 6] rfl (q0 := 0) rfl rfl hl.1 rfl (Nat.le_of_ble_eq_true rfl) dX0_read_2
set_option maxHeartbeats 4000000 in
set_option maxRecDepth 100000 in
theorem c_X0_read_xb (l : Launch) (hl0 : l.stackTraces = false) (dC : Nat → ClassId) (dI : Nat → Nat → Nat) (cA : ClassId) (h0 q0 q1 q2 q3 q4 q5 : Nat) (w ce nm tl tc tw : Nat → Int32) (T n z : Nat) (wtc wia off : Int32) (cell : Nat) (hc : cell < 32) (ho : ¬ off = 0) : kMx l yX0_read wsX0_read ({ frames := 7, cells := 1, slots := 6, locals := 111 }) dC dI [(cA, .int)] (wX0 cA h0 q0 q1 q2 q3 q4 q5 w ce nm tl tc tw T n z wtc wia off) [.ref h0, .int (nI cell)] kISE := by
  refine kMx_of (cc := cX0_read) (maxL := 2) (ret := (some .int)) (by decide) rfl (Nat.le_of_ble_eq_true rfl) ?_
  intro p e s m below meth c A ls hx hb hml hr hts hown hlocks hA hP hK hD hS hZ hxt hl
  have hin : ∀ w ∈ u_ws RX0 TX0 12, w ∈ wsX0_read := by decide +kernel
  have hl : lv_has ls 2 [(0, .ref h0), (1, .int (nI cell))] := hl
  refine lv_aload_n hx hb dX0_read_0 rfl (lv_at hl 0 rfl) ?_
  refine lv_iload_n hx hb dX0_read_1 rfl (lv_at hl 1 rfl) ?_
  refine kv_Vv (Xr := []) (n := 1) (c_X0_needCell l dC dI cA h0 q0 q1 q2 q3 q4 q5 w ce nm tl tc tw T n z wtc wia off cell (by omega)) hx hb hml hown hts gX0_read_X0_needCell rfl ⟨rfl, rfl⟩ (by decide +kernel) rfl ⟨Nat.le_of_ble_eq_true rfl, Nat.le_of_ble_eq_true rfl⟩ hK hP hD hS hA [0] [0, 1, 2, 3, 4, 5, 6] [] rfl rfl rfl (by decide) (by decide) (q0 := 0) rfl rfl rfl (by decide) hl.1 rfl (Nat.le_of_ble_eq_true rfl) dX0_read_2 ⟨Nat.zero_le _, Nat.zero_le _⟩ (fun H locs hP hD hS => ?_)
  have hP : va_P (dC, dI) vwCl (wX0 cA h0 q0 q1 q2 q3 q4 q5 w ce nm tl tc tw T n z wtc wia off) H := hP
  have hD : va_D A (wX0 cA h0 q0 q1 q2 q3 q4 q5 w ce nm tl tc tw T n z wtc wia off) := hD
  refine lv_aload_n hx hb dX0_read_5 rfl (lv_at hl 0 rfl) ?_
  exact kx_thru (n := 0) (c_X0_needPower_x l hl0 dC dI cA h0 q0 q1 q2 q3 q4 q5 w ce nm tl tc tw T n z wtc wia off  ho) hx hb hml hown hts gX0_read_X0_needPower rfl ⟨rfl, rfl⟩ (by decide +kernel) rfl ⟨Nat.le_of_ble_eq_true rfl, Nat.le_of_ble_eq_true rfl, Nat.le_of_ble_eq_true rfl, Nat.le_of_ble_eq_true rfl⟩ hK hP hD hS hA hZ hxt hlocks [0, 1, 2, 3, 4, 5, 6] rfl (q0 := 0) rfl rfl hl.1 rfl (Nat.le_of_ble_eq_true rfl) dX0_read_6
set_option maxHeartbeats 4000000 in
set_option maxRecDepth 100000 in
theorem c_X0_commit_x (l : Launch) (hl0 : l.stackTraces = false) (dC : Nat → ClassId) (dI : Nat → Nat → Nat) (cA : ClassId) (h0 q0 q1 q2 q3 q4 q5 : Nat) (w ce nm tl tc tw : Nat → Int32) (T n z : Nat) (wtc wia off : Int32)  (hx9 : ¬ off = 0 ∨ T = 0) : kMx l yX0_commit wsX0_commit ({ frames := 8, cells := 1, slots := 6, locals := 130 }) dC dI [(cA, .int)] (wX0 cA h0 q0 q1 q2 q3 q4 q5 w ce nm tl tc tw T n z wtc wia off) [.ref h0] kISE := by
  refine kMx_of (cc := cX0_commit) (maxL := 3) (ret := (some .int)) (by decide) rfl (Nat.le_of_ble_eq_true rfl) ?_
  intro p e s m below meth c A ls hx hb hml hr hts hown hlocks hA hP hK hD hS hZ hxt hl
  have hin : ∀ w ∈ u_ws RX0 TX0 12, w ∈ wsX0_commit := by decide +kernel
  have hl : lv_has ls 3 [(0, .ref h0)] := hl
  refine lv_aload_n hx hb dX0_commit_0 rfl (lv_at hl 0 rfl) ?_
  exact kx_thru (n := 0) (c_X0_needTransaction_x l hl0 dC dI cA h0 q0 q1 q2 q3 q4 q5 w ce nm tl tc tw T n z wtc wia off  hx9) hx hb hml hown hts gX0_commit_X0_needTransaction rfl ⟨rfl, rfl⟩ (by decide +kernel) rfl ⟨Nat.le_of_ble_eq_true rfl, Nat.le_of_ble_eq_true rfl, Nat.le_of_ble_eq_true rfl, Nat.le_of_ble_eq_true rfl⟩ hK hP hD hS hA hZ hxt hlocks [0, 1, 2, 3, 4, 5, 6] rfl (q0 := 0) rfl rfl hl.1 rfl (Nat.le_of_ble_eq_true rfl) dX0_commit_1
set_option maxHeartbeats 4000000 in
set_option maxRecDepth 100000 in
theorem c_X0_abort_x (l : Launch) (hl0 : l.stackTraces = false) (dC : Nat → ClassId) (dI : Nat → Nat → Nat) (cA : ClassId) (h0 q0 q1 q2 q3 q4 q5 : Nat) (w ce nm tl tc tw : Nat → Int32) (T n z : Nat) (wtc wia off : Int32)  (hx9 : ¬ off = 0 ∨ T = 0) : kMx l yX0_abort wsX0_abort ({ frames := 8, cells := 1, slots := 6, locals := 130 }) dC dI [(cA, .int)] (wX0 cA h0 q0 q1 q2 q3 q4 q5 w ce nm tl tc tw T n z wtc wia off) [.ref h0] kISE := by
  refine kMx_of (cc := cX0_abort) (maxL := 2) (ret := (some .int)) (by decide) rfl (Nat.le_of_ble_eq_true rfl) ?_
  intro p e s m below meth c A ls hx hb hml hr hts hown hlocks hA hP hK hD hS hZ hxt hl
  have hin : ∀ w ∈ u_ws RX0 TX0 12, w ∈ wsX0_abort := by decide +kernel
  have hl : lv_has ls 2 [(0, .ref h0)] := hl
  refine lv_aload_n hx hb dX0_abort_0 rfl (lv_at hl 0 rfl) ?_
  exact kx_thru (n := 0) (c_X0_needTransaction_x l hl0 dC dI cA h0 q0 q1 q2 q3 q4 q5 w ce nm tl tc tw T n z wtc wia off  hx9) hx hb hml hown hts gX0_abort_X0_needTransaction rfl ⟨rfl, rfl⟩ (by decide +kernel) rfl ⟨Nat.le_of_ble_eq_true rfl, Nat.le_of_ble_eq_true rfl, Nat.le_of_ble_eq_true rfl, Nat.le_of_ble_eq_true rfl⟩ hK hP hD hS hA hZ hxt hlocks [0, 1, 2, 3, 4, 5, 6] rfl (q0 := 0) rfl rfl hl.1 rfl (Nat.le_of_ble_eq_true rfl) dX0_abort_1
set_option maxHeartbeats 4000000 in
set_option maxRecDepth 100000 in
theorem c_X0_point_xa (l : Launch) (hl0 : l.stackTraces = false) (dC : Nat → ClassId) (dI : Nat → Nat → Nat) (cA : ClassId) (h0 q0 q1 q2 q3 q4 q5 : Nat) (w ce nm tl tc tw : Nat → Int32) (T n z : Nat) (wtc wia off : Int32) (name : Int32) (hnm : name < 0 ∨ ¬ name < nI 10) : kMx l yX0_point wsX0_point ({ frames := 8, cells := 1, slots := 6, locals := 130 }) dC dI [(cA, .int)] (wX0 cA h0 q0 q1 q2 q3 q4 q5 w ce nm tl tc tw T n z wtc wia off) [.ref h0, .int name] kIAE := by
  refine kMx_of (cc := cX0_point) (maxL := 3) (ret := (some .int)) (by decide) rfl (Nat.le_of_ble_eq_true rfl) ?_
  intro p e s m below meth c A ls hx hb hml hr hts hown hlocks hA hP hK hD hS hZ hxt hl
  have hl : lv_has ls 3 [(0, .ref h0), (1, .int name)] := hl
  refine lv_aload_n hx hb dX0_point_0 rfl (lv_at hl 0 rfl) ?_
  refine lv_iload_n hx hb dX0_point_1 rfl (lv_at hl 1 rfl) ?_
  exact kx_thru (n := 1) (c_X0_needName_x l hl0 dC dI cA h0 q0 q1 q2 q3 q4 q5 w ce nm tl tc tw T n z wtc wia off name hnm) hx hb hml hown hts gX0_point_X0_needName rfl ⟨rfl, rfl⟩ (by decide +kernel) rfl ⟨Nat.le_of_ble_eq_true rfl, Nat.le_of_ble_eq_true rfl, Nat.le_of_ble_eq_true rfl, Nat.le_of_ble_eq_true rfl⟩ hK hP hD hS hA hZ hxt hlocks [0, 1, 2, 3, 4, 5, 6] rfl (q0 := 0) rfl rfl hl.1 rfl (Nat.le_of_ble_eq_true rfl) dX0_point_2
set_option maxHeartbeats 4000000 in
set_option maxRecDepth 100000 in
theorem c_X0_point_xb (l : Launch) (hl0 : l.stackTraces = false) (dC : Nat → ClassId) (dI : Nat → Nat → Nat) (cA : ClassId) (h0 q0 q1 q2 q3 q4 q5 : Nat) (w ce nm tl tc tw : Nat → Int32) (T n z : Nat) (wtc wia off : Int32) (name : Nat) (hnm : name < 10) (hx9 : ¬ off = 0 ∨ T = 0) : kMx l yX0_point wsX0_point ({ frames := 8, cells := 1, slots := 6, locals := 130 }) dC dI [(cA, .int)] (wX0 cA h0 q0 q1 q2 q3 q4 q5 w ce nm tl tc tw T n z wtc wia off) [.ref h0, .int (nI name)] kISE := by
  refine kMx_of (cc := cX0_point) (maxL := 3) (ret := (some .int)) (by decide) rfl (Nat.le_of_ble_eq_true rfl) ?_
  intro p e s m below meth c A ls hx hb hml hr hts hown hlocks hA hP hK hD hS hZ hxt hl
  have hl : lv_has ls 3 [(0, .ref h0), (1, .int (nI name))] := hl
  refine lv_aload_n hx hb dX0_point_0 rfl (lv_at hl 0 rfl) ?_
  refine lv_iload_n hx hb dX0_point_1 rfl (lv_at hl 1 rfl) ?_
  refine kv_Vv (Xr := []) (n := 1) (c_X0_needName l dC dI cA h0 q0 q1 q2 q3 q4 q5 w ce nm tl tc tw T n z wtc wia off name (by omega)) hx hb hml hown hts gX0_point_X0_needName rfl ⟨rfl, rfl⟩ (by decide +kernel) rfl ⟨Nat.le_of_ble_eq_true rfl, Nat.le_of_ble_eq_true rfl⟩ hK hP hD hS hA [0] [0, 1, 2, 3, 4, 5, 6] [] rfl rfl rfl (by decide) (by decide) (q0 := 0) rfl rfl rfl (by decide) hl.1 rfl (Nat.le_of_ble_eq_true rfl) dX0_point_2 ⟨Nat.zero_le _, Nat.zero_le _⟩ (fun H locs hP hD hS => ?_)
  have hP : va_P (dC, dI) vwCl (wX0 cA h0 q0 q1 q2 q3 q4 q5 w ce nm tl tc tw T n z wtc wia off) H := hP
  have hD : va_D A (wX0 cA h0 q0 q1 q2 q3 q4 q5 w ce nm tl tc tw T n z wtc wia off) := hD
  refine lv_aload_n hx hb dX0_point_5 rfl (lv_at hl 0 rfl) ?_
  exact kx_thru (n := 0) (c_X0_needTransaction_x l hl0 dC dI cA h0 q0 q1 q2 q3 q4 q5 w ce nm tl tc tw T n z wtc wia off  hx9) hx hb hml hown hts gX0_point_X0_needTransaction rfl ⟨rfl, rfl⟩ (by decide +kernel) rfl ⟨Nat.le_of_ble_eq_true rfl, Nat.le_of_ble_eq_true rfl, Nat.le_of_ble_eq_true rfl, Nat.le_of_ble_eq_true rfl⟩ hK hP hD hS hA hZ hxt hlocks [0, 1, 2, 3, 4, 5, 6] rfl (q0 := 0) rfl rfl hl.1 rfl (Nat.le_of_ble_eq_true rfl) dX0_point_6
set_option maxHeartbeats 4000000 in
set_option maxRecDepth 100000 in
theorem c_X0_back_xa (l : Launch) (hl0 : l.stackTraces = false) (dC : Nat → ClassId) (dI : Nat → Nat → Nat) (cA : ClassId) (h0 q0 q1 q2 q3 q4 q5 : Nat) (w ce nm tl tc tw : Nat → Int32) (T n z : Nat) (wtc wia off : Int32) (name : Int32) (hnm : name < 0 ∨ ¬ name < nI 10) : kMx l yX0_back wsX0_back ({ frames := 8, cells := 1, slots := 6, locals := 130 }) dC dI [(cA, .int)] (wX0 cA h0 q0 q1 q2 q3 q4 q5 w ce nm tl tc tw T n z wtc wia off) [.ref h0, .int name] kIAE := by
  refine kMx_of (cc := cX0_back) (maxL := 3) (ret := (some .int)) (by decide) rfl (Nat.le_of_ble_eq_true rfl) ?_
  intro p e s m below meth c A ls hx hb hml hr hts hown hlocks hA hP hK hD hS hZ hxt hl
  have hl : lv_has ls 3 [(0, .ref h0), (1, .int name)] := hl
  refine lv_aload_n hx hb dX0_back_0 rfl (lv_at hl 0 rfl) ?_
  refine lv_iload_n hx hb dX0_back_1 rfl (lv_at hl 1 rfl) ?_
  exact kx_thru (n := 1) (c_X0_needName_x l hl0 dC dI cA h0 q0 q1 q2 q3 q4 q5 w ce nm tl tc tw T n z wtc wia off name hnm) hx hb hml hown hts gX0_back_X0_needName rfl ⟨rfl, rfl⟩ (by decide +kernel) rfl ⟨Nat.le_of_ble_eq_true rfl, Nat.le_of_ble_eq_true rfl, Nat.le_of_ble_eq_true rfl, Nat.le_of_ble_eq_true rfl⟩ hK hP hD hS hA hZ hxt hlocks [0, 1, 2, 3, 4, 5, 6] rfl (q0 := 0) rfl rfl hl.1 rfl (Nat.le_of_ble_eq_true rfl) dX0_back_2
set_option maxHeartbeats 4000000 in
set_option maxRecDepth 100000 in
theorem c_X0_back_xb (l : Launch) (hl0 : l.stackTraces = false) (dC : Nat → ClassId) (dI : Nat → Nat → Nat) (cA : ClassId) (h0 q0 q1 q2 q3 q4 q5 : Nat) (w ce nm tl tc tw : Nat → Int32) (T n z : Nat) (wtc wia off : Int32) (name : Nat) (hnm : name < 10) (hx9 : ¬ off = 0 ∨ T = 0) : kMx l yX0_back wsX0_back ({ frames := 8, cells := 1, slots := 6, locals := 130 }) dC dI [(cA, .int)] (wX0 cA h0 q0 q1 q2 q3 q4 q5 w ce nm tl tc tw T n z wtc wia off) [.ref h0, .int (nI name)] kISE := by
  refine kMx_of (cc := cX0_back) (maxL := 3) (ret := (some .int)) (by decide) rfl (Nat.le_of_ble_eq_true rfl) ?_
  intro p e s m below meth c A ls hx hb hml hr hts hown hlocks hA hP hK hD hS hZ hxt hl
  have hl : lv_has ls 3 [(0, .ref h0), (1, .int (nI name))] := hl
  refine lv_aload_n hx hb dX0_back_0 rfl (lv_at hl 0 rfl) ?_
  refine lv_iload_n hx hb dX0_back_1 rfl (lv_at hl 1 rfl) ?_
  refine kv_Vv (Xr := []) (n := 1) (c_X0_needName l dC dI cA h0 q0 q1 q2 q3 q4 q5 w ce nm tl tc tw T n z wtc wia off name (by omega)) hx hb hml hown hts gX0_back_X0_needName rfl ⟨rfl, rfl⟩ (by decide +kernel) rfl ⟨Nat.le_of_ble_eq_true rfl, Nat.le_of_ble_eq_true rfl⟩ hK hP hD hS hA [0] [0, 1, 2, 3, 4, 5, 6] [] rfl rfl rfl (by decide) (by decide) (q0 := 0) rfl rfl rfl (by decide) hl.1 rfl (Nat.le_of_ble_eq_true rfl) dX0_back_2 ⟨Nat.zero_le _, Nat.zero_le _⟩ (fun H locs hP hD hS => ?_)
  have hP : va_P (dC, dI) vwCl (wX0 cA h0 q0 q1 q2 q3 q4 q5 w ce nm tl tc tw T n z wtc wia off) H := hP
  have hD : va_D A (wX0 cA h0 q0 q1 q2 q3 q4 q5 w ce nm tl tc tw T n z wtc wia off) := hD
  refine lv_aload_n hx hb dX0_back_5 rfl (lv_at hl 0 rfl) ?_
  exact kx_thru (n := 0) (c_X0_needTransaction_x l hl0 dC dI cA h0 q0 q1 q2 q3 q4 q5 w ce nm tl tc tw T n z wtc wia off  hx9) hx hb hml hown hts gX0_back_X0_needTransaction rfl ⟨rfl, rfl⟩ (by decide +kernel) rfl ⟨Nat.le_of_ble_eq_true rfl, Nat.le_of_ble_eq_true rfl, Nat.le_of_ble_eq_true rfl, Nat.le_of_ble_eq_true rfl⟩ hK hP hD hS hA hZ hxt hlocks [0, 1, 2, 3, 4, 5, 6] rfl (q0 := 0) rfl rfl hl.1 rfl (Nat.le_of_ble_eq_true rfl) dX0_back_6
set_option maxHeartbeats 4000000 in
set_option maxRecDepth 100000 in
theorem c_X0_back_xc (l : Launch) (hl0 : l.stackTraces = false) (dC : Nat → ClassId) (dI : Nat → Nat → Nat) (cA : ClassId) (h0 q0 q1 q2 q3 q4 q5 : Nat) (w ce nm tl tc tw : Nat → Int32) (T n z : Nat) (wtc wia off : Int32) (name : Nat) (hnm : name < 10) (ho : off = 0) (hT : 0 < T) (hT8 : T ≤ 8) (hn : n ≤ 88) (hpl : kx_pl nm (nI name) (kx_inn nm n) n = 0) : kMx l yX0_back wsX0_back ({ frames := 8, cells := 1, slots := 6, locals := 130 }) dC dI [(cA, .int)] (wX0 cA h0 q0 q1 q2 q3 q4 q5 w ce nm tl tc tw T n z wtc wia off) [.ref h0, .int (nI name)] kIAE := by
  refine kMx_of (cc := cX0_back) (maxL := 3) (ret := (some .int)) (by decide) rfl (Nat.le_of_ble_eq_true rfl) ?_
  intro p e s m below meth c A ls hx hb hml hr hts hown hlocks hA hP hK hD hS hZ hxt hl
  have hl : lv_has ls 3 [(0, .ref h0), (1, .int (nI name))] := hl
  refine lv_aload_n hx hb dX0_back_0 rfl (lv_at hl 0 rfl) ?_
  refine lv_iload_n hx hb dX0_back_1 rfl (lv_at hl 1 rfl) ?_
  refine kv_Vv (Xr := []) (n := 1) (c_X0_needName l dC dI cA h0 q0 q1 q2 q3 q4 q5 w ce nm tl tc tw T n z wtc wia off name (by omega)) hx hb hml hown hts gX0_back_X0_needName rfl ⟨rfl, rfl⟩ (by decide +kernel) rfl ⟨Nat.le_of_ble_eq_true rfl, Nat.le_of_ble_eq_true rfl⟩ hK hP hD hS hA [0] [0, 1, 2, 3, 4, 5, 6] [] rfl rfl rfl (by decide) (by decide) (q0 := 0) rfl rfl rfl (by decide) hl.1 rfl (Nat.le_of_ble_eq_true rfl) dX0_back_2 ⟨Nat.zero_le _, Nat.zero_le _⟩ (fun H locs hP hD hS => ?_)
  have hP : va_P (dC, dI) vwCl (wX0 cA h0 q0 q1 q2 q3 q4 q5 w ce nm tl tc tw T n z wtc wia off) H := hP
  have hD : va_D A (wX0 cA h0 q0 q1 q2 q3 q4 q5 w ce nm tl tc tw T n z wtc wia off) := hD
  refine lv_aload_n hx hb dX0_back_5 rfl (lv_at hl 0 rfl) ?_
  refine kv_Vv (Xr := []) (n := 0) (c_X0_needTransaction l dC dI cA h0 q0 q1 q2 q3 q4 q5 w ce nm tl tc tw T n z wtc wia off  ho hT hT8) hx hb hml hown hts gX0_back_X0_needTransaction rfl ⟨rfl, rfl⟩ (by decide +kernel) rfl ⟨Nat.le_of_ble_eq_true rfl, Nat.le_of_ble_eq_true rfl⟩ hK hP hD hS hA [0] [0, 1, 2, 3, 4, 5, 6] [] rfl rfl rfl (by decide) (by decide) (q0 := 0) rfl rfl rfl (by decide) hl.1 rfl (Nat.le_of_ble_eq_true rfl) dX0_back_6 ⟨Nat.zero_le _, Nat.zero_le _⟩ (fun H locs hP hD hS => ?_)
  have hP : va_P (dC, dI) vwCl (wX0 cA h0 q0 q1 q2 q3 q4 q5 w ce nm tl tc tw T n z wtc wia off) H := hP
  have hD : va_D A (wX0 cA h0 q0 q1 q2 q3 q4 q5 w ce nm tl tc tw T n z wtc wia off) := hD
  refine lv_aload_n hx hb dX0_back_9 rfl (lv_at hl 0 rfl) ?_
  refine lv_aload_n hx hb dX0_back_10 rfl (lv_at hl 0 rfl) ?_
  refine lv_iload_n hx hb dX0_back_11 rfl (lv_at hl 1 rfl) ?_
  exact kx_thru (n := 1) (c_X0_needPoint_x l hl0 dC dI cA h0 q0 q1 q2 q3 q4 q5 w ce nm tl tc tw T n z wtc wia off name hn hpl) hx hb hml hown hts gX0_back_X0_needPoint rfl ⟨rfl, rfl⟩ (by decide +kernel) rfl ⟨Nat.le_of_ble_eq_true rfl, Nat.le_of_ble_eq_true rfl, Nat.le_of_ble_eq_true rfl, Nat.le_of_ble_eq_true rfl⟩ hK hP hD hS hA hZ hxt hlocks [0, 1, 2, 3, 4, 5, 6] rfl (q0 := 0) rfl rfl hl.1 rfl (Nat.le_of_ble_eq_true rfl) dX0_back_12
set_option maxHeartbeats 4000000 in
set_option maxRecDepth 100000 in
theorem c_X0_release_xa (l : Launch) (hl0 : l.stackTraces = false) (dC : Nat → ClassId) (dI : Nat → Nat → Nat) (cA : ClassId) (h0 q0 q1 q2 q3 q4 q5 : Nat) (w ce nm tl tc tw : Nat → Int32) (T n z : Nat) (wtc wia off : Int32) (name : Int32) (hnm : name < 0 ∨ ¬ name < nI 10) : kMx l yX0_release wsX0_release ({ frames := 8, cells := 1, slots := 6, locals := 130 }) dC dI [(cA, .int)] (wX0 cA h0 q0 q1 q2 q3 q4 q5 w ce nm tl tc tw T n z wtc wia off) [.ref h0, .int name] kIAE := by
  refine kMx_of (cc := cX0_release) (maxL := 2) (ret := (some .int)) (by decide) rfl (Nat.le_of_ble_eq_true rfl) ?_
  intro p e s m below meth c A ls hx hb hml hr hts hown hlocks hA hP hK hD hS hZ hxt hl
  have hl : lv_has ls 2 [(0, .ref h0), (1, .int name)] := hl
  refine lv_aload_n hx hb dX0_release_0 rfl (lv_at hl 0 rfl) ?_
  refine lv_iload_n hx hb dX0_release_1 rfl (lv_at hl 1 rfl) ?_
  exact kx_thru (n := 1) (c_X0_needName_x l hl0 dC dI cA h0 q0 q1 q2 q3 q4 q5 w ce nm tl tc tw T n z wtc wia off name hnm) hx hb hml hown hts gX0_release_X0_needName rfl ⟨rfl, rfl⟩ (by decide +kernel) rfl ⟨Nat.le_of_ble_eq_true rfl, Nat.le_of_ble_eq_true rfl, Nat.le_of_ble_eq_true rfl, Nat.le_of_ble_eq_true rfl⟩ hK hP hD hS hA hZ hxt hlocks [0, 1, 2, 3, 4, 5, 6] rfl (q0 := 0) rfl rfl hl.1 rfl (Nat.le_of_ble_eq_true rfl) dX0_release_2
set_option maxHeartbeats 4000000 in
set_option maxRecDepth 100000 in
theorem c_X0_release_xb (l : Launch) (hl0 : l.stackTraces = false) (dC : Nat → ClassId) (dI : Nat → Nat → Nat) (cA : ClassId) (h0 q0 q1 q2 q3 q4 q5 : Nat) (w ce nm tl tc tw : Nat → Int32) (T n z : Nat) (wtc wia off : Int32) (name : Nat) (hnm : name < 10) (hx9 : ¬ off = 0 ∨ T = 0) : kMx l yX0_release wsX0_release ({ frames := 8, cells := 1, slots := 6, locals := 130 }) dC dI [(cA, .int)] (wX0 cA h0 q0 q1 q2 q3 q4 q5 w ce nm tl tc tw T n z wtc wia off) [.ref h0, .int (nI name)] kISE := by
  refine kMx_of (cc := cX0_release) (maxL := 2) (ret := (some .int)) (by decide) rfl (Nat.le_of_ble_eq_true rfl) ?_
  intro p e s m below meth c A ls hx hb hml hr hts hown hlocks hA hP hK hD hS hZ hxt hl
  have hl : lv_has ls 2 [(0, .ref h0), (1, .int (nI name))] := hl
  refine lv_aload_n hx hb dX0_release_0 rfl (lv_at hl 0 rfl) ?_
  refine lv_iload_n hx hb dX0_release_1 rfl (lv_at hl 1 rfl) ?_
  refine kv_Vv (Xr := []) (n := 1) (c_X0_needName l dC dI cA h0 q0 q1 q2 q3 q4 q5 w ce nm tl tc tw T n z wtc wia off name (by omega)) hx hb hml hown hts gX0_release_X0_needName rfl ⟨rfl, rfl⟩ (by decide +kernel) rfl ⟨Nat.le_of_ble_eq_true rfl, Nat.le_of_ble_eq_true rfl⟩ hK hP hD hS hA [0] [0, 1, 2, 3, 4, 5, 6] [] rfl rfl rfl (by decide) (by decide) (q0 := 0) rfl rfl rfl (by decide) hl.1 rfl (Nat.le_of_ble_eq_true rfl) dX0_release_2 ⟨Nat.zero_le _, Nat.zero_le _⟩ (fun H locs hP hD hS => ?_)
  have hP : va_P (dC, dI) vwCl (wX0 cA h0 q0 q1 q2 q3 q4 q5 w ce nm tl tc tw T n z wtc wia off) H := hP
  have hD : va_D A (wX0 cA h0 q0 q1 q2 q3 q4 q5 w ce nm tl tc tw T n z wtc wia off) := hD
  refine lv_aload_n hx hb dX0_release_5 rfl (lv_at hl 0 rfl) ?_
  exact kx_thru (n := 0) (c_X0_needTransaction_x l hl0 dC dI cA h0 q0 q1 q2 q3 q4 q5 w ce nm tl tc tw T n z wtc wia off  hx9) hx hb hml hown hts gX0_release_X0_needTransaction rfl ⟨rfl, rfl⟩ (by decide +kernel) rfl ⟨Nat.le_of_ble_eq_true rfl, Nat.le_of_ble_eq_true rfl, Nat.le_of_ble_eq_true rfl, Nat.le_of_ble_eq_true rfl⟩ hK hP hD hS hA hZ hxt hlocks [0, 1, 2, 3, 4, 5, 6] rfl (q0 := 0) rfl rfl hl.1 rfl (Nat.le_of_ble_eq_true rfl) dX0_release_6
set_option maxHeartbeats 4000000 in
set_option maxRecDepth 100000 in
theorem c_X0_release_xc (l : Launch) (hl0 : l.stackTraces = false) (dC : Nat → ClassId) (dI : Nat → Nat → Nat) (cA : ClassId) (h0 q0 q1 q2 q3 q4 q5 : Nat) (w ce nm tl tc tw : Nat → Int32) (T n z : Nat) (wtc wia off : Int32) (name : Nat) (hnm : name < 10) (ho : off = 0) (hT : 0 < T) (hT8 : T ≤ 8) (hn : n ≤ 88) (hpl : kx_pl nm (nI name) (kx_inn nm n) n = 0) : kMx l yX0_release wsX0_release ({ frames := 8, cells := 1, slots := 6, locals := 130 }) dC dI [(cA, .int)] (wX0 cA h0 q0 q1 q2 q3 q4 q5 w ce nm tl tc tw T n z wtc wia off) [.ref h0, .int (nI name)] kIAE := by
  refine kMx_of (cc := cX0_release) (maxL := 2) (ret := (some .int)) (by decide) rfl (Nat.le_of_ble_eq_true rfl) ?_
  intro p e s m below meth c A ls hx hb hml hr hts hown hlocks hA hP hK hD hS hZ hxt hl
  have hl : lv_has ls 2 [(0, .ref h0), (1, .int (nI name))] := hl
  refine lv_aload_n hx hb dX0_release_0 rfl (lv_at hl 0 rfl) ?_
  refine lv_iload_n hx hb dX0_release_1 rfl (lv_at hl 1 rfl) ?_
  refine kv_Vv (Xr := []) (n := 1) (c_X0_needName l dC dI cA h0 q0 q1 q2 q3 q4 q5 w ce nm tl tc tw T n z wtc wia off name (by omega)) hx hb hml hown hts gX0_release_X0_needName rfl ⟨rfl, rfl⟩ (by decide +kernel) rfl ⟨Nat.le_of_ble_eq_true rfl, Nat.le_of_ble_eq_true rfl⟩ hK hP hD hS hA [0] [0, 1, 2, 3, 4, 5, 6] [] rfl rfl rfl (by decide) (by decide) (q0 := 0) rfl rfl rfl (by decide) hl.1 rfl (Nat.le_of_ble_eq_true rfl) dX0_release_2 ⟨Nat.zero_le _, Nat.zero_le _⟩ (fun H locs hP hD hS => ?_)
  have hP : va_P (dC, dI) vwCl (wX0 cA h0 q0 q1 q2 q3 q4 q5 w ce nm tl tc tw T n z wtc wia off) H := hP
  have hD : va_D A (wX0 cA h0 q0 q1 q2 q3 q4 q5 w ce nm tl tc tw T n z wtc wia off) := hD
  refine lv_aload_n hx hb dX0_release_5 rfl (lv_at hl 0 rfl) ?_
  refine kv_Vv (Xr := []) (n := 0) (c_X0_needTransaction l dC dI cA h0 q0 q1 q2 q3 q4 q5 w ce nm tl tc tw T n z wtc wia off  ho hT hT8) hx hb hml hown hts gX0_release_X0_needTransaction rfl ⟨rfl, rfl⟩ (by decide +kernel) rfl ⟨Nat.le_of_ble_eq_true rfl, Nat.le_of_ble_eq_true rfl⟩ hK hP hD hS hA [0] [0, 1, 2, 3, 4, 5, 6] [] rfl rfl rfl (by decide) (by decide) (q0 := 0) rfl rfl rfl (by decide) hl.1 rfl (Nat.le_of_ble_eq_true rfl) dX0_release_6 ⟨Nat.zero_le _, Nat.zero_le _⟩ (fun H locs hP hD hS => ?_)
  have hP : va_P (dC, dI) vwCl (wX0 cA h0 q0 q1 q2 q3 q4 q5 w ce nm tl tc tw T n z wtc wia off) H := hP
  have hD : va_D A (wX0 cA h0 q0 q1 q2 q3 q4 q5 w ce nm tl tc tw T n z wtc wia off) := hD
  refine lv_aload_n hx hb dX0_release_9 rfl (lv_at hl 0 rfl) ?_
  refine lv_aload_n hx hb dX0_release_10 rfl (lv_at hl 0 rfl) ?_
  refine lv_iload_n hx hb dX0_release_11 rfl (lv_at hl 1 rfl) ?_
  exact kx_thru (n := 1) (c_X0_needPoint_x l hl0 dC dI cA h0 q0 q1 q2 q3 q4 q5 w ce nm tl tc tw T n z wtc wia off name hn hpl) hx hb hml hown hts gX0_release_X0_needPoint rfl ⟨rfl, rfl⟩ (by decide +kernel) rfl ⟨Nat.le_of_ble_eq_true rfl, Nat.le_of_ble_eq_true rfl, Nat.le_of_ble_eq_true rfl, Nat.le_of_ble_eq_true rfl⟩ hK hP hD hS hA hZ hxt hlocks [0, 1, 2, 3, 4, 5, 6] rfl (q0 := 0) rfl rfl hl.1 rfl (Nat.le_of_ble_eq_true rfl) dX0_release_12
set_option maxHeartbeats 4000000 in
set_option maxRecDepth 100000 in
theorem c_X0_disk_x (l : Launch) (hl0 : l.stackTraces = false) (dC : Nat → ClassId) (dI : Nat → Nat → Nat) (cA : ClassId) (h0 q0 q1 q2 q3 q4 q5 : Nat) (w ce nm tl tc tw : Nat → Int32) (T n z : Nat) (wtc wia off : Int32) (i : Int32) (hw : i < 0 ∨ ¬ i < nI 98) : kMx l yX0_disk wsX0_disk ({ frames := 7, cells := 1, slots := 6, locals := 111 }) dC dI [(cA, .int)] (wX0 cA h0 q0 q1 q2 q3 q4 q5 w ce nm tl tc tw T n z wtc wia off) [.ref h0, .int i] kIAE := by
  refine kMx_of (cc := cX0_disk) (maxL := 2) (ret := (some .int)) (by decide) rfl (Nat.le_of_ble_eq_true rfl) ?_
  intro p e s m below meth c A ls hx hb hml hr hts hown hlocks hA hP hK hD hS hZ hxt hl
  have hin : ∀ w ∈ u_ws RX0 TX0 12, w ∈ wsX0_disk := by decide +kernel
  have hl : lv_has ls 2 [(0, .ref h0), (1, .int i)] := hl
  refine lv_aload_n hx hb dX0_disk_0 rfl (lv_at hl 0 rfl) ?_
  refine lv_iload_n hx hb dX0_disk_1 rfl (lv_at hl 1 rfl) ?_
  exact kx_thru (n := 1) (c_X0_needWord_x l hl0 dC dI cA h0 q0 q1 q2 q3 q4 q5 w ce nm tl tc tw T n z wtc wia off i hw) hx hb hml hown hts gX0_disk_X0_needWord rfl ⟨rfl, rfl⟩ (by decide +kernel) rfl ⟨Nat.le_of_ble_eq_true rfl, Nat.le_of_ble_eq_true rfl, Nat.le_of_ble_eq_true rfl, Nat.le_of_ble_eq_true rfl⟩ hK hP hD hS hA hZ hxt hlocks [0, 1, 2, 3, 4, 5, 6] rfl (q0 := 0) rfl rfl hl.1 rfl (Nat.le_of_ble_eq_true rfl) dX0_disk_2
set_option maxHeartbeats 4000000 in
set_option maxRecDepth 100000 in
theorem c_X0_spoil_x (l : Launch) (hl0 : l.stackTraces = false) (dC : Nat → ClassId) (dI : Nat → Nat → Nat) (cA : ClassId) (h0 q0 q1 q2 q3 q4 q5 : Nat) (w ce nm tl tc tw : Nat → Int32) (T n z : Nat) (wtc wia off : Int32) (i : Int32) (v : Int32) (hw : i < 0 ∨ ¬ i < nI 98) : kMx l yX0_spoil wsX0_spoil ({ frames := 7, cells := 1, slots := 6, locals := 111 }) dC dI [(cA, .int)] (wX0 cA h0 q0 q1 q2 q3 q4 q5 w ce nm tl tc tw T n z wtc wia off) [.ref h0, .int i, .int v] kIAE := by
  refine kMx_of (cc := cX0_spoil) (maxL := 4) (ret := (some .int)) (by decide) rfl (Nat.le_of_ble_eq_true rfl) ?_
  intro p e s m below meth c A ls hx hb hml hr hts hown hlocks hA hP hK hD hS hZ hxt hl
  have hin : ∀ w ∈ u_ws RX0 TX0 12, w ∈ wsX0_spoil := by decide +kernel
  have hl : lv_has ls 4 [(0, .ref h0), (1, .int i), (2, .int v)] := hl
  refine lv_aload_n hx hb dX0_spoil_0 rfl (lv_at hl 0 rfl) ?_
  refine lv_iload_n hx hb dX0_spoil_1 rfl (lv_at hl 1 rfl) ?_
  exact kx_thru (n := 1) (c_X0_needWord_x l hl0 dC dI cA h0 q0 q1 q2 q3 q4 q5 w ce nm tl tc tw T n z wtc wia off i hw) hx hb hml hown hts gX0_spoil_X0_needWord rfl ⟨rfl, rfl⟩ (by decide +kernel) rfl ⟨Nat.le_of_ble_eq_true rfl, Nat.le_of_ble_eq_true rfl, Nat.le_of_ble_eq_true rfl, Nat.le_of_ble_eq_true rfl⟩ hK hP hD hS hA hZ hxt hlocks [0, 1, 2, 3, 4, 5, 6] rfl (q0 := 0) rfl rfl hl.1 rfl (Nat.le_of_ble_eq_true rfl) dX0_spoil_2
set_option maxHeartbeats 4000000 in
set_option maxRecDepth 100000 in
theorem c_X0_level_xa (l : Launch) (hl0 : l.stackTraces = false) (dC : Nat → ClassId) (dI : Nat → Nat → Nat) (cA : ClassId) (h0 q0 q1 q2 q3 q4 q5 : Nat) (w ce nm tl tc tw : Nat → Int32) (T n z : Nat) (wtc wia off : Int32) (i : Int32) (what : Int32) (hw : i < 0 ∨ ¬ i < nI n) : kMx l yX0_level wsX0_level ({ frames := 6, cells := 1, slots := 6, locals := 90 }) dC dI [(cA, .int)] (wX0 cA h0 q0 q1 q2 q3 q4 q5 w ce nm tl tc tw T n z wtc wia off) [.ref h0, .int i, .int what] kIAE := by
  refine kMx_of (cc := cX0_level) (maxL := 3) (ret := (some .int)) (by decide) rfl (Nat.le_of_ble_eq_true rfl) ?_
  intro p e s m below meth c A ls hx hb hml hr hts hown hlocks hA hP hK hD hS hZ hxt hl
  have hin : ∀ w ∈ u_ws RX0 TX0 12, w ∈ wsX0_level := by decide +kernel
  have hl : lv_has ls 3 [(0, .ref h0), (1, .int i), (2, .int what)] := hl
  refine lv_iload_n hx hb dX0_level_0 rfl (lv_at hl 1 rfl) ?_
  refine lv_if_lt (tgt := 12) hx hb dX0_level_1 (by decide) (fun h1_0 => ?_) (fun h1_0 => ?_)
  · skip
    exact kx_throw (text := "no such level") (ik := 131) (is := 133) (ic := 135) hx hb hl0 hown hml (by decide +kernel) (hts (.classLink RX0 131 kIAE) (by decide +kernel)) (hts (.initialized kIAE) (by decide +kernel)) (fun w hw => hts w (by first | exact List.mem_cons_of_mem _ (List.mem_append_right _ hw) | exact List.mem_cons_of_mem _ (List.mem_append_left _ (List.mem_append_right _ hw)))) ky_badA (Or.inr rfl) ky_okA (by decide +kernel) hZ hP hK hD hS hxt hlocks hl.1 dX0_level_12 dX0_level_15 dX0_level_16 dX0_level_18 dX0_level_21 ⟨Nat.le_of_ble_eq_true rfl, Nat.le_of_ble_eq_true rfl, Nat.le_of_ble_eq_true rfl, Nat.le_of_ble_eq_true rfl⟩
  · skip
    refine lv_iload_n hx hb dX0_level_4 rfl (lv_at hl 1 rfl) ?_
    refine lv_aload_n hx hb dX0_level_5 rfl (lv_at hl 0 rfl) ?_
    refine va_get (D := (dC, dI)) (ci := 0) (v := .int (nI n)) (C := RX0) (T := TX0) (N := 12) hx hb hts hin hown hK hP 0 rfl rfl 7 (by decide) (hts (.fieldLink RX0 71 "NestCells" "levels" "I") (by decide +kernel)) (fun _ h9 => h9) rfl dX0_level_6 ?_
    refine lv_icmp_lt (tgt := 22) hx hb dX0_level_9 (by decide) (fun h9_1 => ((hw.elim h1_0 (fun q => q h9_1))).elim) (fun h9_1 => ?_)
    exact kx_throw (text := "no such level") (ik := 131) (is := 133) (ic := 135) hx hb hl0 hown hml (by decide +kernel) (hts (.classLink RX0 131 kIAE) (by decide +kernel)) (hts (.initialized kIAE) (by decide +kernel)) (fun w hw => hts w (by first | exact List.mem_cons_of_mem _ (List.mem_append_right _ hw) | exact List.mem_cons_of_mem _ (List.mem_append_left _ (List.mem_append_right _ hw)))) ky_badA (Or.inr rfl) ky_okA (by decide +kernel) hZ hP hK hD hS hxt hlocks hl.1 dX0_level_12 dX0_level_15 dX0_level_16 dX0_level_18 dX0_level_21 ⟨Nat.le_of_ble_eq_true rfl, Nat.le_of_ble_eq_true rfl, Nat.le_of_ble_eq_true rfl, Nat.le_of_ble_eq_true rfl⟩
set_option maxHeartbeats 4000000 in
set_option maxRecDepth 100000 in
theorem c_X0_level_xb (l : Launch) (hl0 : l.stackTraces = false) (dC : Nat → ClassId) (dI : Nat → Nat → Nat) (cA : ClassId) (h0 q0 q1 q2 q3 q4 q5 : Nat) (w ce nm tl tc tw : Nat → Int32) (T n z : Nat) (wtc wia off : Int32) (i : Nat) (what : Int32) (hn : n ≤ 88) (hi : i < n) (h0w : ¬ what.toInt = 0) (h1w : ¬ what.toInt = 1) : kMx l yX0_level wsX0_level ({ frames := 6, cells := 1, slots := 6, locals := 90 }) dC dI [(cA, .int)] (wX0 cA h0 q0 q1 q2 q3 q4 q5 w ce nm tl tc tw T n z wtc wia off) [.ref h0, .int (nI i), .int what] kIAE := by
  refine kMx_of (cc := cX0_level) (maxL := 3) (ret := (some .int)) (by decide) rfl (Nat.le_of_ble_eq_true rfl) ?_
  intro p e s m below meth c A ls hx hb hml hr hts hown hlocks hA hP hK hD hS hZ hxt hl
  have hin : ∀ w ∈ u_ws RX0 TX0 12, w ∈ wsX0_level := by decide +kernel
  have hl : lv_has ls 3 [(0, .ref h0), (1, .int (nI i)), (2, .int what)] := hl
  refine lv_iload_n hx hb dX0_level_0 rfl (lv_at hl 1 rfl) ?_
  refine kv_if_lt (tgt := 12) hx hb (by omega) dX0_level_1 (by decide) ?_
  refine lv_iload_n hx hb dX0_level_4 rfl (lv_at hl 1 rfl) ?_
  refine lv_aload_n hx hb dX0_level_5 rfl (lv_at hl 0 rfl) ?_
  refine va_get (D := (dC, dI)) (ci := 0) (v := .int (nI n)) (C := RX0) (T := TX0) (N := 12) hx hb hts hin hown hK hP 0 rfl rfl 7 (by decide) (hts (.fieldLink RX0 71 "NestCells" "levels" "I") (by decide +kernel)) (fun _ h9 => h9) rfl dX0_level_6 ?_
  refine kv_lt (tgt := 22) hx hb (by omega) (by omega) dX0_level_9 (by decide) (fun h9_0 => ?_) (fun h9_0 => absurd h9_0 (by omega))
  refine lv_iload_n hx hb dX0_level_22 rfl (lv_at hl 2 rfl) ?_
  refine lv_lookup (off := 41) (tgt := 64) hx hb dX0_level_23 (by decide) (by simp [Op.lookupswitch.offset, Ne.symm h0w, Ne.symm h1w]) (by decide) ?_
  exact kx_throw (text := "what is 0 or 1") (ik := 131) (is := 141) (ic := 135) hx hb hl0 hown hml (by decide +kernel) (hts (.classLink RX0 131 kIAE) (by decide +kernel)) (hts (.initialized kIAE) (by decide +kernel)) (fun w hw => hts w (by first | exact List.mem_cons_of_mem _ (List.mem_append_right _ hw) | exact List.mem_cons_of_mem _ (List.mem_append_left _ (List.mem_append_right _ hw)))) ky_badA (Or.inr rfl) ky_okA (by decide +kernel) hZ hP hK hD hS hxt hlocks hl.1 dX0_level_64 dX0_level_67 dX0_level_68 dX0_level_70 dX0_level_73 ⟨Nat.le_of_ble_eq_true rfl, Nat.le_of_ble_eq_true rfl, Nat.le_of_ble_eq_true rfl, Nat.le_of_ble_eq_true rfl⟩
set_option maxHeartbeats 4000000 in
set_option maxRecDepth 100000 in
theorem c_X0_about_x (l : Launch) (hl0 : l.stackTraces = false) (dC : Nat → ClassId) (dI : Nat → Nat → Nat) (cA : ClassId) (h0 q0 q1 q2 q3 q4 q5 : Nat) (w ce nm tl tc tw : Nat → Int32) (T n z : Nat) (wtc wia off : Int32) (what : Int32) (hw : what.toInt < 0 ∨ 6 < what.toInt) : kMx l yX0_about wsX0_about ({ frames := 6, cells := 1, slots := 6, locals := 90 }) dC dI [(cA, .int)] (wX0 cA h0 q0 q1 q2 q3 q4 q5 w ce nm tl tc tw T n z wtc wia off) [.ref h0, .int what] kIAE := by
  refine kMx_of (cc := cX0_about) (maxL := 2) (ret := (some .int)) (by decide) rfl (Nat.le_of_ble_eq_true rfl) ?_
  intro p e s m below meth c A ls hx hb hml hr hts hown hlocks hA hP hK hD hS hZ hxt hl
  have hin : ∀ w ∈ u_ws RX0 TX0 12, w ∈ wsX0_about := by decide +kernel
  have hl : lv_has ls 2 [(0, .ref h0), (1, .int what)] := hl
  refine lv_iload_n hx hb dX0_about_0 rfl (lv_at hl 1 rfl) ?_
  refine lv_tableOut (tgt := 87) hx hb dX0_about_1 hw (by decide) ?_
  exact kx_throw (text := "what is 0 to 6") (ik := 131) (is := 143) (ic := 135) hx hb hl0 hown hml (by decide +kernel) (hts (.classLink RX0 131 kIAE) (by decide +kernel)) (hts (.initialized kIAE) (by decide +kernel)) (fun w hw => hts w (by first | exact List.mem_cons_of_mem _ (List.mem_append_right _ hw) | exact List.mem_cons_of_mem _ (List.mem_append_left _ (List.mem_append_right _ hw)))) ky_badA (Or.inr rfl) ky_okA (by decide +kernel) hZ hP hK hD hS hxt hlocks hl.1 dX0_about_87 dX0_about_90 dX0_about_91 dX0_about_93 dX0_about_96 ⟨Nat.le_of_ble_eq_true rfl, Nat.le_of_ble_eq_true rfl, Nat.le_of_ble_eq_true rfl, Nat.le_of_ble_eq_true rfl⟩
end
section
set_option maxHeartbeats 4000000 in
set_option maxRecDepth 100000 in
/-- NestCells.recover_a  -/
theorem c_X0_recover_a (l : Launch) (dC : Nat → ClassId) (dI : Nat → Nat → Nat) (cA : ClassId) (h0 q0 q1 q2 q3 q4 q5 : Nat) (w ce nm tl tc tw : Nat → Int32) (T n z : Nat) (wtc wia off : Int32) (mk : Nat)  (hmk : w 32 = nI mk) (h1k : 1 ≤ mk) (h2k : mk ≤ 32) : kMi l yX0_recover wsX0_recover ({ frames := 2, cells := 0, slots := 0, locals := 60 }) dC dI [(cA, .int)] (wX0 cA h0 q0 q1 q2 q3 q4 q5 w ce nm tl tc tw T n z wtc wia off) [.ref h0] (nI ((kx_hf (w, nI 0, wia, nI 0) mk).2)) (wX0 cA h0 q0 q1 q2 q3 q4 q5 (((kx_pw (kx_hf (w, nI 0, wia, nI 0) mk).1 32 (nI 0))).1) (va_cpy ((kx_pw (kx_hf (w, nI 0, wia, nI 0) mk).1 32 (nI 0))).1 ce 0 0 32) nm tl tc tw 0 0 0 (((kx_pw (kx_hf (w, nI 0, wia, nI 0) mk).1 32 (nI 0))).2.1) (((kx_pw (kx_hf (w, nI 0, wia, nI 0) mk).1 32 (nI 0))).2.2.1) (((kx_pw (kx_hf (w, nI 0, wia, nI 0) mk).1 32 (nI 0))).2.2.2)) := by
  refine kMi_of (cc := cX0_recover) (maxL := 2) (ret := (some .int)) (by decide) rfl (Nat.le_of_ble_eq_true rfl) ?_
  intro p e s m below meth c A ls hx hb hml hr hts hown hlocks hA hP hK hD hS hl
  have hin : ∀ w ∈ u_ws RX0 TX0 12, w ∈ wsX0_recover := by decide +kernel
  have hl : lv_has ls 2 [(0, .ref h0)] := hl
  refine lv_aload_n hx hb dX0_recover_0 rfl (lv_at hl 0 rfl) ?_
  refine kv_Vv (Xr := []) (n := 0) (c_X0_forgetTransactions l dC dI cA h0 q0 q1 q2 q3 q4 q5 w ce nm tl tc tw T n z wtc wia off  ) hx hb hml hown hts gX0_recover_X0_forgetTransactions rfl ⟨rfl, rfl⟩ (by decide +kernel) rfl ⟨Nat.le_of_ble_eq_true rfl, Nat.le_of_ble_eq_true rfl⟩ hK hP hD hS hA [0] [0, 1, 2, 3, 4, 5, 6] [] rfl rfl rfl (by decide) (by decide) (q0 := 0) rfl rfl rfl (by decide) hl.1 rfl (Nat.le_of_ble_eq_true rfl) dX0_recover_1 ⟨Nat.zero_le _, Nat.zero_le _⟩ (fun H locs hP hD hS => ?_)
  have hP : va_P (dC, dI) vwCl (wX0 cA h0 q0 q1 q2 q3 q4 q5 w ce nm tl tc tw 0 0 0 wtc wia off) H := hP
  have hD : va_D A (wX0 cA h0 q0 q1 q2 q3 q4 q5 w ce nm tl tc tw 0 0 0 wtc wia off) := hD
  refine lv_aload_n hx hb dX0_recover_4 rfl (lv_at hl 0 rfl) ?_
  refine lv_iconst (v := (nI 0)) hx hb dX0_recover_5 (by decide) ?_
  refine va_put (D := (dC, dI)) (ci := 0) (v := .int (nI 0)) (ty := .int) (C := RX0) (T := TX0) (N := 12) hx hb hts hin tyX0 tyX0_ok nmX0 hown hK hP hD hS 0 rfl rfl 9 (by decide) (hts (.fieldLink RX0 37 "NestCells" "writesTillCrash" "I") (by decide +kernel)) (fun _ h9 => h9) rfl (by decide +kernel) rfl rfl (Nat.le_of_ble_eq_true rfl) dX0_recover_6 (fun H locs hP hD hS => ?_)
  have hP : va_P (dC, dI) vwCl (wX0 cA h0 q0 q1 q2 q3 q4 q5 w ce nm tl tc tw 0 0 0 (nI 0) wia off) H := hP
  have hD : va_D A (wX0 cA h0 q0 q1 q2 q3 q4 q5 w ce nm tl tc tw 0 0 0 (nI 0) wia off) := hD
  refine lv_aload_n hx hb dX0_recover_9 rfl (lv_at hl 0 rfl) ?_
  refine lv_iconst (v := (nI 0)) hx hb dX0_recover_10 (by decide) ?_
  refine va_put (D := (dC, dI)) (ci := 0) (v := .int (nI 0)) (ty := .boolean) (C := RX0) (T := TX0) (N := 12) hx hb hts hin tyX0 tyX0_ok nmX0 hown hK hP hD hS 0 rfl rfl 11 (by decide) (hts (.fieldLink RX0 44 "NestCells" "off" "Z") (by decide +kernel)) (fun _ h9 => h9) rfl (by decide +kernel) rfl rfl (Nat.le_of_ble_eq_true rfl) dX0_recover_11 (fun H locs hP hD hS => ?_)
  have hP : va_P (dC, dI) vwCl (wX0 cA h0 q0 q1 q2 q3 q4 q5 w ce nm tl tc tw 0 0 0 (nI 0) wia (nI 0)) H := hP
  have hD : va_D A (wX0 cA h0 q0 q1 q2 q3 q4 q5 w ce nm tl tc tw 0 0 0 (nI 0) wia (nI 0)) := hD
  refine lv_iconst (v := (nI 0)) hx hb dX0_recover_14 (by decide) ?_
  refine lv_istore_n (lv' := [(1, .int (nI 0)), (0, .ref h0)]) hx hb dX0_recover_15 rfl hl (by decide) rfl (fun ls hl => ?_)
  refine lv_aload_n hx hb dX0_recover_16 rfl (lv_at hl 1 rfl) ?_
  refine va_get (D := (dC, dI)) (ci := 0) (v := .ref q0) (C := RX0) (T := TX0) (N := 12) hx hb hts hin hown hK hP 0 rfl rfl 0 (by decide) (hts (.fieldLink RX0 9 "NestCells" "words" "[I") (by decide +kernel)) (fun _ h9 => h9) rfl dX0_recover_17 ?_
  refine lv_bipush (v := (nI 32)) hx hb dX0_recover_20 (by decide) ?_
  refine kv_iald hx hb hK hP 1 0 rfl rfl (by omega) (by omega) dX0_recover_22 ?_
  refine kv_top (w := .int (nI mk)) (by rw [hmk]) ?_
  refine lv_iconst (v := (nI 1)) hx hb dX0_recover_23 (by decide) ?_
  refine kv_lt (tgt := 51) hx hb (by omega) (by omega) dX0_recover_24 (by decide) (fun h24_0 => absurd h24_0 (by omega)) (fun h24_0 => ?_)
  refine lv_aload_n hx hb dX0_recover_27 rfl (lv_at hl 1 rfl) ?_
  refine va_get (D := (dC, dI)) (ci := 0) (v := .ref q0) (C := RX0) (T := TX0) (N := 12) hx hb hts hin hown hK hP 0 rfl rfl 0 (by decide) (hts (.fieldLink RX0 9 "NestCells" "words" "[I") (by decide +kernel)) (fun _ h9 => h9) rfl dX0_recover_28 ?_
  refine lv_bipush (v := (nI 32)) hx hb dX0_recover_31 (by decide) ?_
  refine kv_iald hx hb hK hP 1 0 rfl rfl (by omega) (by omega) dX0_recover_33 ?_
  refine kv_top (w := .int (nI mk)) (by rw [hmk]) ?_
  refine lv_bipush (v := (nI 32)) hx hb dX0_recover_34 (by decide) ?_
  refine kv_gt (tgt := 51) hx hb (by omega) (by omega) dX0_recover_36 (by decide) (fun h36_0 => absurd h36_0 (by omega)) (fun h36_0 => ?_)
  refine lv_aload_n hx hb dX0_recover_39 rfl (lv_at hl 1 rfl) ?_
  refine lv_aload_n hx hb dX0_recover_40 rfl (lv_at hl 1 rfl) ?_
  refine va_get (D := (dC, dI)) (ci := 0) (v := .ref q0) (C := RX0) (T := TX0) (N := 12) hx hb hts hin hown hK hP 0 rfl rfl 0 (by decide) (hts (.fieldLink RX0 9 "NestCells" "words" "[I") (by decide +kernel)) (fun _ h9 => h9) rfl dX0_recover_41 ?_
  refine lv_bipush (v := (nI 32)) hx hb dX0_recover_44 (by decide) ?_
  refine kv_iald hx hb hK hP 1 0 rfl rfl (by omega) (by omega) dX0_recover_46 ?_
  refine kv_top (w := .int (nI mk)) (by rw [hmk]) ?_
  refine kv_Vi (Xr := []) (n := 1) (c_X0_writeHomesFromEntries l dC dI cA h0 q0 q1 q2 q3 q4 q5 w ce nm tl tc tw 0 0 0 (nI 0) wia (nI 0) mk (by omega)) hx hb hml hown hts gX0_recover_X0_writeHomesFromEntries rfl ⟨rfl, rfl⟩ (by decide +kernel) rfl ⟨Nat.le_of_ble_eq_true rfl, Nat.le_of_ble_eq_true rfl⟩ hK hP hD hS hA [0] [0, 1, 2, 3, 4, 5, 6] [] rfl rfl rfl (by decide) (by decide) (q0 := 0) rfl rfl rfl (by decide) hl.1 rfl (Nat.le_of_ble_eq_true rfl) dX0_recover_47 ⟨Nat.zero_le _, Nat.zero_le _⟩ (fun H locs hP hD hS => ?_)
  have hP : va_P (dC, dI) vwCl (wX0 cA h0 q0 q1 q2 q3 q4 q5 (((kx_hf (w, (nI 0), wia, (nI 0)) mk).1).1) ce nm tl tc tw 0 0 0 (((kx_hf (w, (nI 0), wia, (nI 0)) mk).1).2.1) (((kx_hf (w, (nI 0), wia, (nI 0)) mk).1).2.2.1) (((kx_hf (w, (nI 0), wia, (nI 0)) mk).1).2.2.2)) H := hP
  have hD : va_D A (wX0 cA h0 q0 q1 q2 q3 q4 q5 (((kx_hf (w, (nI 0), wia, (nI 0)) mk).1).1) ce nm tl tc tw 0 0 0 (((kx_hf (w, (nI 0), wia, (nI 0)) mk).1).2.1) (((kx_hf (w, (nI 0), wia, (nI 0)) mk).1).2.2.1) (((kx_hf (w, (nI 0), wia, (nI 0)) mk).1).2.2.2)) := hD
  refine lv_istore_n (lv' := [(1, .int (nI ((kx_hf (w, (nI 0), wia, (nI 0)) mk).2))), (0, .ref h0)]) hx hb dX0_recover_50 rfl hl (by decide) rfl (fun ls hl => ?_)
  have hP : va_P (dC, dI) vwCl (wX0 cA h0 q0 q1 q2 q3 q4 q5 (((kx_hf (w, nI 0, wia, nI 0) mk).1).1) ce nm tl tc tw 0 0 0 (((kx_hf (w, nI 0, wia, nI 0) mk).1).2.1) (((kx_hf (w, nI 0, wia, nI 0) mk).1).2.2.1) (((kx_hf (w, nI 0, wia, nI 0) mk).1).2.2.2)) H := by exact hP
  have hD : va_D A (wX0 cA h0 q0 q1 q2 q3 q4 q5 (((kx_hf (w, nI 0, wia, nI 0) mk).1).1) ce nm tl tc tw 0 0 0 (((kx_hf (w, nI 0, wia, nI 0) mk).1).2.1) (((kx_hf (w, nI 0, wia, nI 0) mk).1).2.2.1) (((kx_hf (w, nI 0, wia, nI 0) mk).1).2.2.2)) := by exact hD
  refine lv_aload_n hx hb dX0_recover_51 rfl (lv_at hl 1 rfl) ?_
  refine va_get (D := (dC, dI)) (ci := 0) (v := .ref q0) (C := RX0) (T := TX0) (N := 12) hx hb hts hin hown hK hP 0 rfl rfl 0 (by decide) (hts (.fieldLink RX0 9 "NestCells" "words" "[I") (by decide +kernel)) (fun _ h9 => h9) rfl dX0_recover_52 ?_
  refine lv_bipush (v := (nI 32)) hx hb dX0_recover_55 (by decide) ?_
  refine kv_iald hx hb hK hP 1 0 rfl rfl (by omega) (by omega) dX0_recover_57 ?_
  refine kv_top (w := .int (nI mk)) (congrArg Value.int ((kx_hf_o _ _ (by omega) _).trans hmk)) ?_
  refine kv_if_eq (tgt := 68) hx hb (by omega) dX0_recover_58 (by decide) (fun h58_0 => absurd h58_0 (by omega)) (fun h58_0 => ?_)
  refine lv_aload_n hx hb dX0_recover_61 rfl (lv_at hl 1 rfl) ?_
  refine lv_bipush (v := (nI 32)) hx hb dX0_recover_62 (by decide) ?_
  refine lv_iconst (v := (nI 0)) hx hb dX0_recover_64 (by decide) ?_
  refine kv_Vv (Xr := []) (n := 2) (c_X0_putWord l dC dI cA h0 q0 q1 q2 q3 q4 q5 (((kx_hf (w, nI 0, wia, nI 0) mk).1).1) ce nm tl tc tw 0 0 0 (((kx_hf (w, nI 0, wia, nI 0) mk).1).2.1) (((kx_hf (w, nI 0, wia, nI 0) mk).1).2.2.1) (((kx_hf (w, nI 0, wia, nI 0) mk).1).2.2.2) 32 (nI 0) (by omega)) hx hb hml hown hts gX0_recover_X0_putWord rfl ⟨rfl, rfl⟩ (by decide +kernel) rfl ⟨Nat.le_of_ble_eq_true rfl, Nat.le_of_ble_eq_true rfl⟩ hK hP hD hS hA [0] [0, 1, 2, 3, 4, 5, 6] [] rfl rfl rfl (by decide) (by decide) (q0 := 0) rfl rfl rfl (by decide) hl.1 rfl (Nat.le_of_ble_eq_true rfl) dX0_recover_65 ⟨Nat.zero_le _, Nat.zero_le _⟩ (fun H locs hP hD hS => ?_)
  have hP : va_P (dC, dI) vwCl (wX0 cA h0 q0 q1 q2 q3 q4 q5 ((kx_pw ((((kx_hf (w, nI 0, wia, nI 0) mk).1).1), (((kx_hf (w, nI 0, wia, nI 0) mk).1).2.1), (((kx_hf (w, nI 0, wia, nI 0) mk).1).2.2.1), (((kx_hf (w, nI 0, wia, nI 0) mk).1).2.2.2)) 32 (nI 0)).1) ce nm tl tc tw 0 0 0 ((kx_pw ((((kx_hf (w, nI 0, wia, nI 0) mk).1).1), (((kx_hf (w, nI 0, wia, nI 0) mk).1).2.1), (((kx_hf (w, nI 0, wia, nI 0) mk).1).2.2.1), (((kx_hf (w, nI 0, wia, nI 0) mk).1).2.2.2)) 32 (nI 0)).2.1) ((kx_pw ((((kx_hf (w, nI 0, wia, nI 0) mk).1).1), (((kx_hf (w, nI 0, wia, nI 0) mk).1).2.1), (((kx_hf (w, nI 0, wia, nI 0) mk).1).2.2.1), (((kx_hf (w, nI 0, wia, nI 0) mk).1).2.2.2)) 32 (nI 0)).2.2.1) ((kx_pw ((((kx_hf (w, nI 0, wia, nI 0) mk).1).1), (((kx_hf (w, nI 0, wia, nI 0) mk).1).2.1), (((kx_hf (w, nI 0, wia, nI 0) mk).1).2.2.1), (((kx_hf (w, nI 0, wia, nI 0) mk).1).2.2.2)) 32 (nI 0)).2.2.2)) H := hP
  have hD : va_D A (wX0 cA h0 q0 q1 q2 q3 q4 q5 ((kx_pw ((((kx_hf (w, nI 0, wia, nI 0) mk).1).1), (((kx_hf (w, nI 0, wia, nI 0) mk).1).2.1), (((kx_hf (w, nI 0, wia, nI 0) mk).1).2.2.1), (((kx_hf (w, nI 0, wia, nI 0) mk).1).2.2.2)) 32 (nI 0)).1) ce nm tl tc tw 0 0 0 ((kx_pw ((((kx_hf (w, nI 0, wia, nI 0) mk).1).1), (((kx_hf (w, nI 0, wia, nI 0) mk).1).2.1), (((kx_hf (w, nI 0, wia, nI 0) mk).1).2.2.1), (((kx_hf (w, nI 0, wia, nI 0) mk).1).2.2.2)) 32 (nI 0)).2.1) ((kx_pw ((((kx_hf (w, nI 0, wia, nI 0) mk).1).1), (((kx_hf (w, nI 0, wia, nI 0) mk).1).2.1), (((kx_hf (w, nI 0, wia, nI 0) mk).1).2.2.1), (((kx_hf (w, nI 0, wia, nI 0) mk).1).2.2.2)) 32 (nI 0)).2.2.1) ((kx_pw ((((kx_hf (w, nI 0, wia, nI 0) mk).1).1), (((kx_hf (w, nI 0, wia, nI 0) mk).1).2.1), (((kx_hf (w, nI 0, wia, nI 0) mk).1).2.2.1), (((kx_hf (w, nI 0, wia, nI 0) mk).1).2.2.2)) 32 (nI 0)).2.2.2)) := hD
  refine lv_aload_n hx hb dX0_recover_68 rfl (lv_at hl 1 rfl) ?_
  refine va_get (D := (dC, dI)) (ci := 0) (v := .ref q0) (C := RX0) (T := TX0) (N := 12) hx hb hts hin hown hK hP 0 rfl rfl 0 (by decide) (hts (.fieldLink RX0 9 "NestCells" "words" "[I") (by decide +kernel)) (fun _ h9 => h9) rfl dX0_recover_69 ?_
  refine lv_iconst (v := (nI 0)) hx hb dX0_recover_72 (by decide) ?_
  refine lv_aload_n hx hb dX0_recover_73 rfl (lv_at hl 1 rfl) ?_
  refine va_get (D := (dC, dI)) (ci := 0) (v := .ref q1) (C := RX0) (T := TX0) (N := 12) hx hb hts hin hown hK hP 0 rfl rfl 1 (by decide) (hts (.fieldLink RX0 13 "NestCells" "cells" "[I") (by decide +kernel)) (fun _ h9 => h9) rfl dX0_recover_74 ?_
  refine lv_iconst (v := (nI 0)) hx hb dX0_recover_77 (by decide) ?_
  refine lv_bipush (v := (nI 32)) hx hb dX0_recover_78 (by decide) ?_
  refine va_copyi (p := p) (l := l) hx hb (hml.trans hl.1.symm) hown (hts (.methodLink RX0 122 arraycopyName) (by decide +kernel)) (hts (.native arraycopyName) (by decide +kernel)) (hts (.static arraycopyName) (by decide +kernel)) (hts (.initialized "java/lang/System") (by decide +kernel)) hK hP hD hS 1 2 0 0 rfl rfl rfl rfl rfl (sp := nI 0) (dp := nI 0) (n := nI 32) (by decide) (by decide) (by decide) (Nat.le_of_ble_eq_true rfl) (Nat.le_of_ble_eq_true rfl) (fun _ _ => rfl) (Nat.le_of_ble_eq_true rfl) (by decide) dX0_recover_80 (fun H locs hP hD hS => ?_)
  have hP : va_P (dC, dI) vwCl (wX0 cA h0 q0 q1 q2 q3 q4 q5 ((kx_pw ((((kx_hf (w, nI 0, wia, nI 0) mk).1).1), (((kx_hf (w, nI 0, wia, nI 0) mk).1).2.1), (((kx_hf (w, nI 0, wia, nI 0) mk).1).2.2.1), (((kx_hf (w, nI 0, wia, nI 0) mk).1).2.2.2)) 32 (nI 0)).1) (va_cpy ((kx_pw ((((kx_hf (w, nI 0, wia, nI 0) mk).1).1), (((kx_hf (w, nI 0, wia, nI 0) mk).1).2.1), (((kx_hf (w, nI 0, wia, nI 0) mk).1).2.2.1), (((kx_hf (w, nI 0, wia, nI 0) mk).1).2.2.2)) 32 (nI 0)).1) ce 0 0 32) nm tl tc tw 0 0 0 ((kx_pw ((((kx_hf (w, nI 0, wia, nI 0) mk).1).1), (((kx_hf (w, nI 0, wia, nI 0) mk).1).2.1), (((kx_hf (w, nI 0, wia, nI 0) mk).1).2.2.1), (((kx_hf (w, nI 0, wia, nI 0) mk).1).2.2.2)) 32 (nI 0)).2.1) ((kx_pw ((((kx_hf (w, nI 0, wia, nI 0) mk).1).1), (((kx_hf (w, nI 0, wia, nI 0) mk).1).2.1), (((kx_hf (w, nI 0, wia, nI 0) mk).1).2.2.1), (((kx_hf (w, nI 0, wia, nI 0) mk).1).2.2.2)) 32 (nI 0)).2.2.1) ((kx_pw ((((kx_hf (w, nI 0, wia, nI 0) mk).1).1), (((kx_hf (w, nI 0, wia, nI 0) mk).1).2.1), (((kx_hf (w, nI 0, wia, nI 0) mk).1).2.2.1), (((kx_hf (w, nI 0, wia, nI 0) mk).1).2.2.2)) 32 (nI 0)).2.2.2)) H := hP
  have hD : va_D A (wX0 cA h0 q0 q1 q2 q3 q4 q5 ((kx_pw ((((kx_hf (w, nI 0, wia, nI 0) mk).1).1), (((kx_hf (w, nI 0, wia, nI 0) mk).1).2.1), (((kx_hf (w, nI 0, wia, nI 0) mk).1).2.2.1), (((kx_hf (w, nI 0, wia, nI 0) mk).1).2.2.2)) 32 (nI 0)).1) (va_cpy ((kx_pw ((((kx_hf (w, nI 0, wia, nI 0) mk).1).1), (((kx_hf (w, nI 0, wia, nI 0) mk).1).2.1), (((kx_hf (w, nI 0, wia, nI 0) mk).1).2.2.1), (((kx_hf (w, nI 0, wia, nI 0) mk).1).2.2.2)) 32 (nI 0)).1) ce 0 0 32) nm tl tc tw 0 0 0 ((kx_pw ((((kx_hf (w, nI 0, wia, nI 0) mk).1).1), (((kx_hf (w, nI 0, wia, nI 0) mk).1).2.1), (((kx_hf (w, nI 0, wia, nI 0) mk).1).2.2.1), (((kx_hf (w, nI 0, wia, nI 0) mk).1).2.2.2)) 32 (nI 0)).2.1) ((kx_pw ((((kx_hf (w, nI 0, wia, nI 0) mk).1).1), (((kx_hf (w, nI 0, wia, nI 0) mk).1).2.1), (((kx_hf (w, nI 0, wia, nI 0) mk).1).2.2.1), (((kx_hf (w, nI 0, wia, nI 0) mk).1).2.2.2)) 32 (nI 0)).2.2.1) ((kx_pw ((((kx_hf (w, nI 0, wia, nI 0) mk).1).1), (((kx_hf (w, nI 0, wia, nI 0) mk).1).2.1), (((kx_hf (w, nI 0, wia, nI 0) mk).1).2.2.1), (((kx_hf (w, nI 0, wia, nI 0) mk).1).2.2.2)) 32 (nI 0)).2.2.2)) := hD
  refine lv_iload_n hx hb dX0_recover_83 rfl (lv_at hl 0 rfl) ?_
  exact kMi_ret hx hb hr hlocks hP hK hD hS dX0_recover_84 rfl rfl
set_option maxHeartbeats 4000000 in
set_option maxRecDepth 100000 in
/-- NestCells.recover_b  -/
theorem c_X0_recover_b (l : Launch) (dC : Nat → ClassId) (dI : Nat → Nat → Nat) (cA : ClassId) (h0 q0 q1 q2 q3 q4 q5 : Nat) (w ce nm tl tc tw : Nat → Int32) (T n z : Nat) (wtc wia off : Int32)  (hb9 : w 32 < nI 1 ∨ nI 32 < w 32) (h0k : ¬ w 32 = 0) : kMi l yX0_recover wsX0_recover ({ frames := 2, cells := 0, slots := 0, locals := 60 }) dC dI [(cA, .int)] (wX0 cA h0 q0 q1 q2 q3 q4 q5 w ce nm tl tc tw T n z wtc wia off) [.ref h0] (nI 0) (wX0 cA h0 q0 q1 q2 q3 q4 q5 (((kx_pw (w, nI 0, wia, nI 0) 32 (nI 0))).1) (va_cpy ((kx_pw (w, nI 0, wia, nI 0) 32 (nI 0))).1 ce 0 0 32) nm tl tc tw 0 0 0 (((kx_pw (w, nI 0, wia, nI 0) 32 (nI 0))).2.1) (((kx_pw (w, nI 0, wia, nI 0) 32 (nI 0))).2.2.1) (((kx_pw (w, nI 0, wia, nI 0) 32 (nI 0))).2.2.2)) := by
  refine kMi_of (cc := cX0_recover) (maxL := 2) (ret := (some .int)) (by decide) rfl (Nat.le_of_ble_eq_true rfl) ?_
  intro p e s m below meth c A ls hx hb hml hr hts hown hlocks hA hP hK hD hS hl
  have hin : ∀ w ∈ u_ws RX0 TX0 12, w ∈ wsX0_recover := by decide +kernel
  have hl : lv_has ls 2 [(0, .ref h0)] := hl
  refine lv_aload_n hx hb dX0_recover_0 rfl (lv_at hl 0 rfl) ?_
  refine kv_Vv (Xr := []) (n := 0) (c_X0_forgetTransactions l dC dI cA h0 q0 q1 q2 q3 q4 q5 w ce nm tl tc tw T n z wtc wia off  ) hx hb hml hown hts gX0_recover_X0_forgetTransactions rfl ⟨rfl, rfl⟩ (by decide +kernel) rfl ⟨Nat.le_of_ble_eq_true rfl, Nat.le_of_ble_eq_true rfl⟩ hK hP hD hS hA [0] [0, 1, 2, 3, 4, 5, 6] [] rfl rfl rfl (by decide) (by decide) (q0 := 0) rfl rfl rfl (by decide) hl.1 rfl (Nat.le_of_ble_eq_true rfl) dX0_recover_1 ⟨Nat.zero_le _, Nat.zero_le _⟩ (fun H locs hP hD hS => ?_)
  have hP : va_P (dC, dI) vwCl (wX0 cA h0 q0 q1 q2 q3 q4 q5 w ce nm tl tc tw 0 0 0 wtc wia off) H := hP
  have hD : va_D A (wX0 cA h0 q0 q1 q2 q3 q4 q5 w ce nm tl tc tw 0 0 0 wtc wia off) := hD
  refine lv_aload_n hx hb dX0_recover_4 rfl (lv_at hl 0 rfl) ?_
  refine lv_iconst (v := (nI 0)) hx hb dX0_recover_5 (by decide) ?_
  refine va_put (D := (dC, dI)) (ci := 0) (v := .int (nI 0)) (ty := .int) (C := RX0) (T := TX0) (N := 12) hx hb hts hin tyX0 tyX0_ok nmX0 hown hK hP hD hS 0 rfl rfl 9 (by decide) (hts (.fieldLink RX0 37 "NestCells" "writesTillCrash" "I") (by decide +kernel)) (fun _ h9 => h9) rfl (by decide +kernel) rfl rfl (Nat.le_of_ble_eq_true rfl) dX0_recover_6 (fun H locs hP hD hS => ?_)
  have hP : va_P (dC, dI) vwCl (wX0 cA h0 q0 q1 q2 q3 q4 q5 w ce nm tl tc tw 0 0 0 (nI 0) wia off) H := hP
  have hD : va_D A (wX0 cA h0 q0 q1 q2 q3 q4 q5 w ce nm tl tc tw 0 0 0 (nI 0) wia off) := hD
  refine lv_aload_n hx hb dX0_recover_9 rfl (lv_at hl 0 rfl) ?_
  refine lv_iconst (v := (nI 0)) hx hb dX0_recover_10 (by decide) ?_
  refine va_put (D := (dC, dI)) (ci := 0) (v := .int (nI 0)) (ty := .boolean) (C := RX0) (T := TX0) (N := 12) hx hb hts hin tyX0 tyX0_ok nmX0 hown hK hP hD hS 0 rfl rfl 11 (by decide) (hts (.fieldLink RX0 44 "NestCells" "off" "Z") (by decide +kernel)) (fun _ h9 => h9) rfl (by decide +kernel) rfl rfl (Nat.le_of_ble_eq_true rfl) dX0_recover_11 (fun H locs hP hD hS => ?_)
  have hP : va_P (dC, dI) vwCl (wX0 cA h0 q0 q1 q2 q3 q4 q5 w ce nm tl tc tw 0 0 0 (nI 0) wia (nI 0)) H := hP
  have hD : va_D A (wX0 cA h0 q0 q1 q2 q3 q4 q5 w ce nm tl tc tw 0 0 0 (nI 0) wia (nI 0)) := hD
  refine lv_iconst (v := (nI 0)) hx hb dX0_recover_14 (by decide) ?_
  refine lv_istore_n (lv' := [(1, .int (nI 0)), (0, .ref h0)]) hx hb dX0_recover_15 rfl hl (by decide) rfl (fun ls hl => ?_)
  refine lv_aload_n hx hb dX0_recover_16 rfl (lv_at hl 1 rfl) ?_
  refine va_get (D := (dC, dI)) (ci := 0) (v := .ref q0) (C := RX0) (T := TX0) (N := 12) hx hb hts hin hown hK hP 0 rfl rfl 0 (by decide) (hts (.fieldLink RX0 9 "NestCells" "words" "[I") (by decide +kernel)) (fun _ h9 => h9) rfl dX0_recover_17 ?_
  refine lv_bipush (v := (nI 32)) hx hb dX0_recover_20 (by decide) ?_
  refine kv_iald hx hb hK hP 1 0 rfl rfl (by omega) (by omega) dX0_recover_22 ?_
  refine lv_iconst (v := (nI 1)) hx hb dX0_recover_23 (by decide) ?_
  refine lv_icmp_lt (tgt := 51) hx hb dX0_recover_24 (by decide) (fun h24_0 => ?_) (fun h24_0 => ?_)
  · skip
    refine lv_aload_n hx hb dX0_recover_51 rfl (lv_at hl 1 rfl) ?_
    refine va_get (D := (dC, dI)) (ci := 0) (v := .ref q0) (C := RX0) (T := TX0) (N := 12) hx hb hts hin hown hK hP 0 rfl rfl 0 (by decide) (hts (.fieldLink RX0 9 "NestCells" "words" "[I") (by decide +kernel)) (fun _ h9 => h9) rfl dX0_recover_52 ?_
    refine lv_bipush (v := (nI 32)) hx hb dX0_recover_55 (by decide) ?_
    refine kv_iald hx hb hK hP 1 0 rfl rfl (by omega) (by omega) dX0_recover_57 ?_
    refine lv_if_eq (tgt := 68) hx hb dX0_recover_58 (by decide) (fun h58_1 => absurd h58_1 h0k) (fun h58_1 => ?_)
    refine lv_aload_n hx hb dX0_recover_61 rfl (lv_at hl 1 rfl) ?_
    refine lv_bipush (v := (nI 32)) hx hb dX0_recover_62 (by decide) ?_
    refine lv_iconst (v := (nI 0)) hx hb dX0_recover_64 (by decide) ?_
    refine kv_Vv (Xr := []) (n := 2) (c_X0_putWord l dC dI cA h0 q0 q1 q2 q3 q4 q5 w ce nm tl tc tw 0 0 0 (nI 0) wia (nI 0) 32 (nI 0) (by omega)) hx hb hml hown hts gX0_recover_X0_putWord rfl ⟨rfl, rfl⟩ (by decide +kernel) rfl ⟨Nat.le_of_ble_eq_true rfl, Nat.le_of_ble_eq_true rfl⟩ hK hP hD hS hA [0] [0, 1, 2, 3, 4, 5, 6] [] rfl rfl rfl (by decide) (by decide) (q0 := 0) rfl rfl rfl (by decide) hl.1 rfl (Nat.le_of_ble_eq_true rfl) dX0_recover_65 ⟨Nat.zero_le _, Nat.zero_le _⟩ (fun H locs hP hD hS => ?_)
    have hP : va_P (dC, dI) vwCl (wX0 cA h0 q0 q1 q2 q3 q4 q5 ((kx_pw (w, (nI 0), wia, (nI 0)) 32 (nI 0)).1) ce nm tl tc tw 0 0 0 ((kx_pw (w, (nI 0), wia, (nI 0)) 32 (nI 0)).2.1) ((kx_pw (w, (nI 0), wia, (nI 0)) 32 (nI 0)).2.2.1) ((kx_pw (w, (nI 0), wia, (nI 0)) 32 (nI 0)).2.2.2)) H := hP
    have hD : va_D A (wX0 cA h0 q0 q1 q2 q3 q4 q5 ((kx_pw (w, (nI 0), wia, (nI 0)) 32 (nI 0)).1) ce nm tl tc tw 0 0 0 ((kx_pw (w, (nI 0), wia, (nI 0)) 32 (nI 0)).2.1) ((kx_pw (w, (nI 0), wia, (nI 0)) 32 (nI 0)).2.2.1) ((kx_pw (w, (nI 0), wia, (nI 0)) 32 (nI 0)).2.2.2)) := hD
    refine lv_aload_n hx hb dX0_recover_68 rfl (lv_at hl 1 rfl) ?_
    refine va_get (D := (dC, dI)) (ci := 0) (v := .ref q0) (C := RX0) (T := TX0) (N := 12) hx hb hts hin hown hK hP 0 rfl rfl 0 (by decide) (hts (.fieldLink RX0 9 "NestCells" "words" "[I") (by decide +kernel)) (fun _ h9 => h9) rfl dX0_recover_69 ?_
    refine lv_iconst (v := (nI 0)) hx hb dX0_recover_72 (by decide) ?_
    refine lv_aload_n hx hb dX0_recover_73 rfl (lv_at hl 1 rfl) ?_
    refine va_get (D := (dC, dI)) (ci := 0) (v := .ref q1) (C := RX0) (T := TX0) (N := 12) hx hb hts hin hown hK hP 0 rfl rfl 1 (by decide) (hts (.fieldLink RX0 13 "NestCells" "cells" "[I") (by decide +kernel)) (fun _ h9 => h9) rfl dX0_recover_74 ?_
    refine lv_iconst (v := (nI 0)) hx hb dX0_recover_77 (by decide) ?_
    refine lv_bipush (v := (nI 32)) hx hb dX0_recover_78 (by decide) ?_
    refine va_copyi (p := p) (l := l) hx hb (hml.trans hl.1.symm) hown (hts (.methodLink RX0 122 arraycopyName) (by decide +kernel)) (hts (.native arraycopyName) (by decide +kernel)) (hts (.static arraycopyName) (by decide +kernel)) (hts (.initialized "java/lang/System") (by decide +kernel)) hK hP hD hS 1 2 0 0 rfl rfl rfl rfl rfl (sp := nI 0) (dp := nI 0) (n := nI 32) (by decide) (by decide) (by decide) (Nat.le_of_ble_eq_true rfl) (Nat.le_of_ble_eq_true rfl) (fun _ _ => rfl) (Nat.le_of_ble_eq_true rfl) (by decide) dX0_recover_80 (fun H locs hP hD hS => ?_)
    have hP : va_P (dC, dI) vwCl (wX0 cA h0 q0 q1 q2 q3 q4 q5 ((kx_pw (w, (nI 0), wia, (nI 0)) 32 (nI 0)).1) (va_cpy ((kx_pw (w, (nI 0), wia, (nI 0)) 32 (nI 0)).1) ce 0 0 32) nm tl tc tw 0 0 0 ((kx_pw (w, (nI 0), wia, (nI 0)) 32 (nI 0)).2.1) ((kx_pw (w, (nI 0), wia, (nI 0)) 32 (nI 0)).2.2.1) ((kx_pw (w, (nI 0), wia, (nI 0)) 32 (nI 0)).2.2.2)) H := hP
    have hD : va_D A (wX0 cA h0 q0 q1 q2 q3 q4 q5 ((kx_pw (w, (nI 0), wia, (nI 0)) 32 (nI 0)).1) (va_cpy ((kx_pw (w, (nI 0), wia, (nI 0)) 32 (nI 0)).1) ce 0 0 32) nm tl tc tw 0 0 0 ((kx_pw (w, (nI 0), wia, (nI 0)) 32 (nI 0)).2.1) ((kx_pw (w, (nI 0), wia, (nI 0)) 32 (nI 0)).2.2.1) ((kx_pw (w, (nI 0), wia, (nI 0)) 32 (nI 0)).2.2.2)) := hD
    refine lv_iload_n hx hb dX0_recover_83 rfl (lv_at hl 0 rfl) ?_
    exact kMi_ret hx hb hr hlocks hP hK hD hS dX0_recover_84 rfl rfl
  · skip
    refine lv_aload_n hx hb dX0_recover_27 rfl (lv_at hl 1 rfl) ?_
    refine va_get (D := (dC, dI)) (ci := 0) (v := .ref q0) (C := RX0) (T := TX0) (N := 12) hx hb hts hin hown hK hP 0 rfl rfl 0 (by decide) (hts (.fieldLink RX0 9 "NestCells" "words" "[I") (by decide +kernel)) (fun _ h9 => h9) rfl dX0_recover_28 ?_
    refine lv_bipush (v := (nI 32)) hx hb dX0_recover_31 (by decide) ?_
    refine kv_iald hx hb hK hP 1 0 rfl rfl (by omega) (by omega) dX0_recover_33 ?_
    refine lv_bipush (v := (nI 32)) hx hb dX0_recover_34 (by decide) ?_
    refine lv_icmp_gt (tgt := 51) hx hb dX0_recover_36 (by decide) (fun h36_1 => ?_) (fun h36_1 => ((hb9.elim h24_0 h36_1)).elim)
    refine lv_aload_n hx hb dX0_recover_51 rfl (lv_at hl 1 rfl) ?_
    refine va_get (D := (dC, dI)) (ci := 0) (v := .ref q0) (C := RX0) (T := TX0) (N := 12) hx hb hts hin hown hK hP 0 rfl rfl 0 (by decide) (hts (.fieldLink RX0 9 "NestCells" "words" "[I") (by decide +kernel)) (fun _ h9 => h9) rfl dX0_recover_52 ?_
    refine lv_bipush (v := (nI 32)) hx hb dX0_recover_55 (by decide) ?_
    refine kv_iald hx hb hK hP 1 0 rfl rfl (by omega) (by omega) dX0_recover_57 ?_
    refine lv_if_eq (tgt := 68) hx hb dX0_recover_58 (by decide) (fun h58_1 => absurd h58_1 h0k) (fun h58_1 => ?_)
    refine lv_aload_n hx hb dX0_recover_61 rfl (lv_at hl 1 rfl) ?_
    refine lv_bipush (v := (nI 32)) hx hb dX0_recover_62 (by decide) ?_
    refine lv_iconst (v := (nI 0)) hx hb dX0_recover_64 (by decide) ?_
    refine kv_Vv (Xr := []) (n := 2) (c_X0_putWord l dC dI cA h0 q0 q1 q2 q3 q4 q5 w ce nm tl tc tw 0 0 0 (nI 0) wia (nI 0) 32 (nI 0) (by omega)) hx hb hml hown hts gX0_recover_X0_putWord rfl ⟨rfl, rfl⟩ (by decide +kernel) rfl ⟨Nat.le_of_ble_eq_true rfl, Nat.le_of_ble_eq_true rfl⟩ hK hP hD hS hA [0] [0, 1, 2, 3, 4, 5, 6] [] rfl rfl rfl (by decide) (by decide) (q0 := 0) rfl rfl rfl (by decide) hl.1 rfl (Nat.le_of_ble_eq_true rfl) dX0_recover_65 ⟨Nat.zero_le _, Nat.zero_le _⟩ (fun H locs hP hD hS => ?_)
    have hP : va_P (dC, dI) vwCl (wX0 cA h0 q0 q1 q2 q3 q4 q5 ((kx_pw (w, (nI 0), wia, (nI 0)) 32 (nI 0)).1) ce nm tl tc tw 0 0 0 ((kx_pw (w, (nI 0), wia, (nI 0)) 32 (nI 0)).2.1) ((kx_pw (w, (nI 0), wia, (nI 0)) 32 (nI 0)).2.2.1) ((kx_pw (w, (nI 0), wia, (nI 0)) 32 (nI 0)).2.2.2)) H := hP
    have hD : va_D A (wX0 cA h0 q0 q1 q2 q3 q4 q5 ((kx_pw (w, (nI 0), wia, (nI 0)) 32 (nI 0)).1) ce nm tl tc tw 0 0 0 ((kx_pw (w, (nI 0), wia, (nI 0)) 32 (nI 0)).2.1) ((kx_pw (w, (nI 0), wia, (nI 0)) 32 (nI 0)).2.2.1) ((kx_pw (w, (nI 0), wia, (nI 0)) 32 (nI 0)).2.2.2)) := hD
    refine lv_aload_n hx hb dX0_recover_68 rfl (lv_at hl 1 rfl) ?_
    refine va_get (D := (dC, dI)) (ci := 0) (v := .ref q0) (C := RX0) (T := TX0) (N := 12) hx hb hts hin hown hK hP 0 rfl rfl 0 (by decide) (hts (.fieldLink RX0 9 "NestCells" "words" "[I") (by decide +kernel)) (fun _ h9 => h9) rfl dX0_recover_69 ?_
    refine lv_iconst (v := (nI 0)) hx hb dX0_recover_72 (by decide) ?_
    refine lv_aload_n hx hb dX0_recover_73 rfl (lv_at hl 1 rfl) ?_
    refine va_get (D := (dC, dI)) (ci := 0) (v := .ref q1) (C := RX0) (T := TX0) (N := 12) hx hb hts hin hown hK hP 0 rfl rfl 1 (by decide) (hts (.fieldLink RX0 13 "NestCells" "cells" "[I") (by decide +kernel)) (fun _ h9 => h9) rfl dX0_recover_74 ?_
    refine lv_iconst (v := (nI 0)) hx hb dX0_recover_77 (by decide) ?_
    refine lv_bipush (v := (nI 32)) hx hb dX0_recover_78 (by decide) ?_
    refine va_copyi (p := p) (l := l) hx hb (hml.trans hl.1.symm) hown (hts (.methodLink RX0 122 arraycopyName) (by decide +kernel)) (hts (.native arraycopyName) (by decide +kernel)) (hts (.static arraycopyName) (by decide +kernel)) (hts (.initialized "java/lang/System") (by decide +kernel)) hK hP hD hS 1 2 0 0 rfl rfl rfl rfl rfl (sp := nI 0) (dp := nI 0) (n := nI 32) (by decide) (by decide) (by decide) (Nat.le_of_ble_eq_true rfl) (Nat.le_of_ble_eq_true rfl) (fun _ _ => rfl) (Nat.le_of_ble_eq_true rfl) (by decide) dX0_recover_80 (fun H locs hP hD hS => ?_)
    have hP : va_P (dC, dI) vwCl (wX0 cA h0 q0 q1 q2 q3 q4 q5 ((kx_pw (w, (nI 0), wia, (nI 0)) 32 (nI 0)).1) (va_cpy ((kx_pw (w, (nI 0), wia, (nI 0)) 32 (nI 0)).1) ce 0 0 32) nm tl tc tw 0 0 0 ((kx_pw (w, (nI 0), wia, (nI 0)) 32 (nI 0)).2.1) ((kx_pw (w, (nI 0), wia, (nI 0)) 32 (nI 0)).2.2.1) ((kx_pw (w, (nI 0), wia, (nI 0)) 32 (nI 0)).2.2.2)) H := hP
    have hD : va_D A (wX0 cA h0 q0 q1 q2 q3 q4 q5 ((kx_pw (w, (nI 0), wia, (nI 0)) 32 (nI 0)).1) (va_cpy ((kx_pw (w, (nI 0), wia, (nI 0)) 32 (nI 0)).1) ce 0 0 32) nm tl tc tw 0 0 0 ((kx_pw (w, (nI 0), wia, (nI 0)) 32 (nI 0)).2.1) ((kx_pw (w, (nI 0), wia, (nI 0)) 32 (nI 0)).2.2.1) ((kx_pw (w, (nI 0), wia, (nI 0)) 32 (nI 0)).2.2.2)) := hD
    refine lv_iload_n hx hb dX0_recover_83 rfl (lv_at hl 0 rfl) ?_
    exact kMi_ret hx hb hr hlocks hP hK hD hS dX0_recover_84 rfl rfl
set_option maxHeartbeats 4000000 in
set_option maxRecDepth 100000 in
/-- NestCells.recover_c  -/
theorem c_X0_recover_c (l : Launch) (dC : Nat → ClassId) (dI : Nat → Nat → Nat) (cA : ClassId) (h0 q0 q1 q2 q3 q4 q5 : Nat) (w ce nm tl tc tw : Nat → Int32) (T n z : Nat) (wtc wia off : Int32)  (h0k : w 32 = 0) : kMi l yX0_recover wsX0_recover ({ frames := 2, cells := 0, slots := 0, locals := 60 }) dC dI [(cA, .int)] (wX0 cA h0 q0 q1 q2 q3 q4 q5 w ce nm tl tc tw T n z wtc wia off) [.ref h0] (nI 0) (wX0 cA h0 q0 q1 q2 q3 q4 q5 (((w, nI 0, wia, nI 0)).1) (va_cpy ((w, nI 0, wia, nI 0)).1 ce 0 0 32) nm tl tc tw 0 0 0 (((w, nI 0, wia, nI 0)).2.1) (((w, nI 0, wia, nI 0)).2.2.1) (((w, nI 0, wia, nI 0)).2.2.2)) := by
  refine kMi_of (cc := cX0_recover) (maxL := 2) (ret := (some .int)) (by decide) rfl (Nat.le_of_ble_eq_true rfl) ?_
  intro p e s m below meth c A ls hx hb hml hr hts hown hlocks hA hP hK hD hS hl
  have hin : ∀ w ∈ u_ws RX0 TX0 12, w ∈ wsX0_recover := by decide +kernel
  have hl : lv_has ls 2 [(0, .ref h0)] := hl
  refine lv_aload_n hx hb dX0_recover_0 rfl (lv_at hl 0 rfl) ?_
  refine kv_Vv (Xr := []) (n := 0) (c_X0_forgetTransactions l dC dI cA h0 q0 q1 q2 q3 q4 q5 w ce nm tl tc tw T n z wtc wia off  ) hx hb hml hown hts gX0_recover_X0_forgetTransactions rfl ⟨rfl, rfl⟩ (by decide +kernel) rfl ⟨Nat.le_of_ble_eq_true rfl, Nat.le_of_ble_eq_true rfl⟩ hK hP hD hS hA [0] [0, 1, 2, 3, 4, 5, 6] [] rfl rfl rfl (by decide) (by decide) (q0 := 0) rfl rfl rfl (by decide) hl.1 rfl (Nat.le_of_ble_eq_true rfl) dX0_recover_1 ⟨Nat.zero_le _, Nat.zero_le _⟩ (fun H locs hP hD hS => ?_)
  have hP : va_P (dC, dI) vwCl (wX0 cA h0 q0 q1 q2 q3 q4 q5 w ce nm tl tc tw 0 0 0 wtc wia off) H := hP
  have hD : va_D A (wX0 cA h0 q0 q1 q2 q3 q4 q5 w ce nm tl tc tw 0 0 0 wtc wia off) := hD
  refine lv_aload_n hx hb dX0_recover_4 rfl (lv_at hl 0 rfl) ?_
  refine lv_iconst (v := (nI 0)) hx hb dX0_recover_5 (by decide) ?_
  refine va_put (D := (dC, dI)) (ci := 0) (v := .int (nI 0)) (ty := .int) (C := RX0) (T := TX0) (N := 12) hx hb hts hin tyX0 tyX0_ok nmX0 hown hK hP hD hS 0 rfl rfl 9 (by decide) (hts (.fieldLink RX0 37 "NestCells" "writesTillCrash" "I") (by decide +kernel)) (fun _ h9 => h9) rfl (by decide +kernel) rfl rfl (Nat.le_of_ble_eq_true rfl) dX0_recover_6 (fun H locs hP hD hS => ?_)
  have hP : va_P (dC, dI) vwCl (wX0 cA h0 q0 q1 q2 q3 q4 q5 w ce nm tl tc tw 0 0 0 (nI 0) wia off) H := hP
  have hD : va_D A (wX0 cA h0 q0 q1 q2 q3 q4 q5 w ce nm tl tc tw 0 0 0 (nI 0) wia off) := hD
  refine lv_aload_n hx hb dX0_recover_9 rfl (lv_at hl 0 rfl) ?_
  refine lv_iconst (v := (nI 0)) hx hb dX0_recover_10 (by decide) ?_
  refine va_put (D := (dC, dI)) (ci := 0) (v := .int (nI 0)) (ty := .boolean) (C := RX0) (T := TX0) (N := 12) hx hb hts hin tyX0 tyX0_ok nmX0 hown hK hP hD hS 0 rfl rfl 11 (by decide) (hts (.fieldLink RX0 44 "NestCells" "off" "Z") (by decide +kernel)) (fun _ h9 => h9) rfl (by decide +kernel) rfl rfl (Nat.le_of_ble_eq_true rfl) dX0_recover_11 (fun H locs hP hD hS => ?_)
  have hP : va_P (dC, dI) vwCl (wX0 cA h0 q0 q1 q2 q3 q4 q5 w ce nm tl tc tw 0 0 0 (nI 0) wia (nI 0)) H := hP
  have hD : va_D A (wX0 cA h0 q0 q1 q2 q3 q4 q5 w ce nm tl tc tw 0 0 0 (nI 0) wia (nI 0)) := hD
  refine lv_iconst (v := (nI 0)) hx hb dX0_recover_14 (by decide) ?_
  refine lv_istore_n (lv' := [(1, .int (nI 0)), (0, .ref h0)]) hx hb dX0_recover_15 rfl hl (by decide) rfl (fun ls hl => ?_)
  refine lv_aload_n hx hb dX0_recover_16 rfl (lv_at hl 1 rfl) ?_
  refine va_get (D := (dC, dI)) (ci := 0) (v := .ref q0) (C := RX0) (T := TX0) (N := 12) hx hb hts hin hown hK hP 0 rfl rfl 0 (by decide) (hts (.fieldLink RX0 9 "NestCells" "words" "[I") (by decide +kernel)) (fun _ h9 => h9) rfl dX0_recover_17 ?_
  refine lv_bipush (v := (nI 32)) hx hb dX0_recover_20 (by decide) ?_
  refine kv_iald hx hb hK hP 1 0 rfl rfl (by omega) (by omega) dX0_recover_22 ?_
  refine lv_iconst (v := (nI 1)) hx hb dX0_recover_23 (by decide) ?_
  refine lv_icmp_lt (tgt := 51) hx hb dX0_recover_24 (by decide) (fun h24_0 => ?_) (fun h24_0 => ((h24_0 (by rw [h0k]; decide))).elim)
  refine lv_aload_n hx hb dX0_recover_51 rfl (lv_at hl 1 rfl) ?_
  refine va_get (D := (dC, dI)) (ci := 0) (v := .ref q0) (C := RX0) (T := TX0) (N := 12) hx hb hts hin hown hK hP 0 rfl rfl 0 (by decide) (hts (.fieldLink RX0 9 "NestCells" "words" "[I") (by decide +kernel)) (fun _ h9 => h9) rfl dX0_recover_52 ?_
  refine lv_bipush (v := (nI 32)) hx hb dX0_recover_55 (by decide) ?_
  refine kv_iald hx hb hK hP 1 0 rfl rfl (by omega) (by omega) dX0_recover_57 ?_
  refine lv_if_eq (tgt := 68) hx hb dX0_recover_58 (by decide) (fun h58_0 => ?_) (fun h58_0 => absurd h58_0 (fun q => q h0k))
  refine lv_aload_n hx hb dX0_recover_68 rfl (lv_at hl 1 rfl) ?_
  refine va_get (D := (dC, dI)) (ci := 0) (v := .ref q0) (C := RX0) (T := TX0) (N := 12) hx hb hts hin hown hK hP 0 rfl rfl 0 (by decide) (hts (.fieldLink RX0 9 "NestCells" "words" "[I") (by decide +kernel)) (fun _ h9 => h9) rfl dX0_recover_69 ?_
  refine lv_iconst (v := (nI 0)) hx hb dX0_recover_72 (by decide) ?_
  refine lv_aload_n hx hb dX0_recover_73 rfl (lv_at hl 1 rfl) ?_
  refine va_get (D := (dC, dI)) (ci := 0) (v := .ref q1) (C := RX0) (T := TX0) (N := 12) hx hb hts hin hown hK hP 0 rfl rfl 1 (by decide) (hts (.fieldLink RX0 13 "NestCells" "cells" "[I") (by decide +kernel)) (fun _ h9 => h9) rfl dX0_recover_74 ?_
  refine lv_iconst (v := (nI 0)) hx hb dX0_recover_77 (by decide) ?_
  refine lv_bipush (v := (nI 32)) hx hb dX0_recover_78 (by decide) ?_
  refine va_copyi (p := p) (l := l) hx hb (hml.trans hl.1.symm) hown (hts (.methodLink RX0 122 arraycopyName) (by decide +kernel)) (hts (.native arraycopyName) (by decide +kernel)) (hts (.static arraycopyName) (by decide +kernel)) (hts (.initialized "java/lang/System") (by decide +kernel)) hK hP hD hS 1 2 0 0 rfl rfl rfl rfl rfl (sp := nI 0) (dp := nI 0) (n := nI 32) (by decide) (by decide) (by decide) (Nat.le_of_ble_eq_true rfl) (Nat.le_of_ble_eq_true rfl) (fun _ _ => rfl) (Nat.le_of_ble_eq_true rfl) (by decide) dX0_recover_80 (fun H locs hP hD hS => ?_)
  have hP : va_P (dC, dI) vwCl (wX0 cA h0 q0 q1 q2 q3 q4 q5 w (va_cpy w ce 0 0 32) nm tl tc tw 0 0 0 (nI 0) wia (nI 0)) H := hP
  have hD : va_D A (wX0 cA h0 q0 q1 q2 q3 q4 q5 w (va_cpy w ce 0 0 32) nm tl tc tw 0 0 0 (nI 0) wia (nI 0)) := hD
  refine lv_iload_n hx hb dX0_recover_83 rfl (lv_at hl 0 rfl) ?_
  exact kMi_ret hx hb hr hlocks hP hK hD hS dX0_recover_84 rfl rfl
end
section
/-! begun out of kit/laws: Int32 by its bits -/
def bt (x : Int32) (i : Nat) : Bool := x.toBitVec.getLsbD i
theorem b_ext {x y : Int32} (h : ∀ i, i < 32 → bt x i = bt y i) : x = y := Int32.toBitVec_inj.mp (BitVec.eq_of_getLsbD_eq (fun i hi => h i hi))
theorem b_or (x y : Int32) (i : Nat) : bt (x ||| y) i = (bt x i || bt y i) := by unfold bt; rw [Int32.toBitVec_or, BitVec.getLsbD_or]
theorem b_and (x y : Int32) (i : Nat) : bt (x &&& y) i = (bt x i && bt y i) := by unfold bt; rw [Int32.toBitVec_and, BitVec.getLsbD_and]
theorem b_xor (x y : Int32) (i : Nat) : bt (x ^^^ y) i = (bt x i ^^ bt y i) := by unfold bt; rw [Int32.toBitVec_xor, BitVec.getLsbD_xor]
theorem b_big {x : Int32} {i : Nat} (h : 32 ≤ i) : bt x i = false := BitVec.getLsbD_of_ge _ _ h
theorem b_255 (i : Nat) : bt 255 i = decide (i < 8) := by
  rcases Nat.lt_or_ge i 32 with h | h
  · exact (by decide +kernel : ∀ i, i < 32 → bt 255 i = decide (i < 8)) i h
  · rw [b_big h, decide_eq_false (by omega)]
theorem b_65535 (i : Nat) : bt 65535 i = decide (i < 16) := by
  rcases Nat.lt_or_ge i 32 with h | h
  · exact (by decide +kernel : ∀ i, i < 32 → bt 65535 i = decide (i < 16)) i h
  · rw [b_big h, decide_eq_false (by omega)]
theorem b_m1 : ∀ i, i < 32 → bt (-1) i = true := by decide +kernel
theorem b_0 (i : Nat) : bt 0 i = false := BitVec.getLsbD_zero
theorem s_l : ∀ n, n < 32 → ((nI n &&& 31).toBitVec.smod 32).toNat = n := by decide +kernel
theorem s_u : ∀ n, n < 32 → (((nI n).toUInt32 &&& Int32.toUInt32 31).toBitVec % 32).toNat = n := by decide +kernel
theorem b_shl (n : Nat) (hn : n < 32) (x : Int32) {i : Nat} (hi : i < 32) : bt (x <<< (nI n &&& 31)) i = (decide (n ≤ i) && bt x (i - n)) := by
  unfold bt
  rw [Int32.toBitVec_shiftLeft]
  show (x.toBitVec <<< ((nI n &&& 31).toBitVec.smod 32).toNat).getLsbD i = _
  rw [s_l n hn, BitVec.getLsbD_shiftLeft]
  rcases Nat.lt_or_ge i n with h | h
  · simp [h, Nat.not_le.mpr h]
  · simp [hi, h, Nat.not_lt.mpr h]
theorem b_ushr (n : Nat) (hn : n < 32) (x : Int32) (i : Nat) : bt ((x.toUInt32 >>> ((nI n).toUInt32 &&& Int32.toUInt32 31)).toInt32) i = bt x (n + i) := by
  show (x.toUInt32 >>> ((nI n).toUInt32 &&& Int32.toUInt32 31)).toBitVec.getLsbD i = x.toUInt32.toBitVec.getLsbD (n + i)
  rw [UInt32.toBitVec_shiftRight]
  show (x.toUInt32.toBitVec >>> (((nI n).toUInt32 &&& Int32.toUInt32 31).toBitVec % 32).toNat).getLsbD i = _
  rw [s_u n hn, BitVec.getLsbD_ushiftRight]
theorem b_sshr (n : Nat) (hn : n < 32) (x : Int32) {i : Nat} (hi : i < 32) : bt (x >>> (nI n &&& 31)) i = if n + i < 32 then bt x (n + i) else bt x 31 := by
  unfold bt
  rw [Int32.toBitVec_shiftRight]
  show (x.toBitVec.sshiftRight ((nI n &&& 31).toBitVec.smod 32).toNat).getLsbD i = _
  rw [s_l n hn, BitVec.getLsbD_sshiftRight, BitVec.msb_eq_getLsbD_last]
  simp [hi]
theorem b_shl8 (x : Int32) {i : Nat} (hi : i < 32) : bt (x <<< ((8 : Int32) &&& 31)) i = (decide (8 ≤ i) && bt x (i - 8)) := b_shl 8 (by omega) x hi
theorem b_shl16 (x : Int32) {i : Nat} (hi : i < 32) : bt (x <<< ((16 : Int32) &&& 31)) i = (decide (16 ≤ i) && bt x (i - 16)) := b_shl 16 (by omega) x hi
theorem b_shl24 (x : Int32) {i : Nat} (hi : i < 32) : bt (x <<< ((24 : Int32) &&& 31)) i = (decide (24 ≤ i) && bt x (i - 24)) := b_shl 24 (by omega) x hi
theorem b_sshr8 (x : Int32) {i : Nat} (hi : i < 32) : bt (x >>> ((8 : Int32) &&& 31)) i = if 8 + i < 32 then bt x (8 + i) else bt x 31 := b_sshr 8 (by omega) x hi
/-! one bit of a mask, and how many there are -/
def mo_b (x : Int32) (k : Nat) : Nat := if bt x k = true then 1 else 0
theorem mo_b_le (x : Int32) (k : Nat) : mo_b x k ≤ 1 := by
  rw [mo_b]
  split <;> omega
theorem mb_1 : ∀ i, i < 32 → bt (nI 1) i = decide (i = 0) := by decide +kernel
theorem mb_n (x : Int32) (k i : Nat) (hi : i < 32) : bt (nI (mo_b x k)) i = (decide (i = 0) && bt x k) := by
  rw [mo_b]
  by_cases h : bt x k = true
  · rw [if_pos h, h, mb_1 i hi, Bool.and_true]
  · rw [if_neg h, Bool.eq_false_iff.mpr h, Bool.and_false, nI_0, b_0]
theorem mb_shr (x : Int32) {k : Nat} (hk : k < 32) : (x >>> (nI k &&& 31)) &&& nI 1 = nI (mo_b x k) := by
  apply b_ext
  intro i hi
  rw [b_and, mb_n x k i hi, mb_1 i hi, b_sshr k hk x hi]
  by_cases h : i = 0
  · subst h
    rw [if_pos (by omega)]
    simp
  · simp [h]
theorem mb_ushr (x : Int32) {k : Nat} (hk : k < 32) : (x.toUInt32 >>> ((nI k).toUInt32 &&& Int32.toUInt32 31)).toInt32 &&& nI 1 = nI (mo_b x k) := by
  apply b_ext
  intro i hi
  rw [b_and, mb_n x k i hi, mb_1 i hi, b_ushr k hk x i]
  by_cases h : i = 0
  · subst h
    simp
  · simp [h]
theorem mb_holds (x : Int32) {k : Nat} (hk : k < 32) : kx_holds x (nI k) = nI (mo_b x k) := by
  rw [kx_holds, mb_ushr x hk, mo_b]
  split
  · rw [if_neg kv_n10]
  · rw [if_pos nI_0]
theorem mb_holds0 (x : Int32) {k : Nat} (hk : k < 32) : kx_holds x (nI k) = 0 ↔ mo_b x k = 0 := by
  have h := mo_b_le x k
  rw [mb_holds x hk, ← nI_0, nI_eq (by omega) (by omega)]
def mo_bits (x : Int32) : Nat → Nat
  | 0 => 0
  | k + 1 => mo_bits x k + mo_b x k
theorem mo_bits_le (x : Int32) : ∀ k, mo_bits x k ≤ k
  | 0 => Nat.le_refl 0
  | k + 1 => by
    have h := mo_bits_le x k
    have h2 := mo_b_le x k
    rw [mo_bits]; omega
/-! Integer.bitCount counts them -/
theorem bc_and (s a m r q : Nat) (hr : r < 2 ^ s) (hq : q < 2 ^ s) : (2 ^ s * a + r) &&& (2 ^ s * m + q) = 2 ^ s * (a &&& m) + (r &&& q) := by
  apply Nat.eq_of_testBit_eq
  intro i
  rw [Nat.testBit_and, Nat.testBit_two_pow_mul_add _ hr, Nat.testBit_two_pow_mul_add _ hq, Nat.testBit_two_pow_mul_add _ (Nat.lt_of_le_of_lt Nat.and_le_left hr)]
  split
  · rw [Nat.testBit_and]
  · rw [Nat.testBit_and]
theorem bc_and4 (c0 c1 c2 c3 m : Nat) (h0 : c0 < 256) (h1 : c1 < 256) (h2 : c2 < 256) (hm : m < 256) : (c0 + 256 * (c1 + 256 * (c2 + 256 * c3))) &&& (m + 256 * (m + 256 * (m + 256 * m))) = (c0 &&& m) + 256 * ((c1 &&& m) + 256 * ((c2 &&& m) + 256 * (c3 &&& m))) := by
  have e : ∀ a b c d : Nat, c < 256 → d < 256 → (c + 256 * a) &&& (d + 256 * b) = (c &&& d) + 256 * (a &&& b) := by
    intro a b c d hc hd
    have := bc_and 8 a b c d hc hd
    rw [Nat.add_comm c, Nat.add_comm d, Nat.add_comm (c &&& d)]
    exact this
  rw [e _ _ _ _ h0 hm, e _ _ _ _ h1 hm, e _ _ _ _ h2 hm]
def bc_f1 (c : Nat) : Nat := c - ((c / 2) &&& 85)
def bc_f2 (b : Nat) : Nat := (b &&& 51) + ((b / 4) &&& 51)
def bc_f3 (g : Nat) : Nat := (g + g / 16) % 16
def bc_pop (c : Nat) : Nat := c % 2 + c / 2 % 2 + c / 4 % 2 + c / 8 % 2 + c / 16 % 2 + c / 32 % 2 + c / 64 % 2 + c / 128 % 2
theorem bc_d1 : ∀ c, c < 256 → ∀ e, e < 2 → (c / 2 + 128 * e) &&& 85 = (c / 2) &&& 85 := by decide +kernel
theorem bc_d1' : ∀ c, c < 256 → (c / 2) &&& 85 ≤ c := by decide +kernel
theorem bc_d2 : ∀ b, b < 256 → ∀ e, e < 4 → (b / 4 + 64 * e) &&& 51 = (b / 4) &&& 51 := by decide +kernel
theorem bc_d3 : ∀ c, c < 256 → bc_f2 (bc_f1 c) / 16 ≤ 4 ∧ bc_f2 (bc_f1 c) % 16 ≤ 4 := by decide +kernel
theorem bc_d4 : ∀ g, g < 80 → ∀ e, e < 5 → (g + g / 16 + 16 * e) &&& 15 = bc_f3 g := by decide +kernel
theorem bc_d5 : ∀ c, c < 256 → bc_f3 (bc_f2 (bc_f1 c)) = bc_pop c ∧ bc_pop c ≤ 8 := by decide +kernel
theorem bc_nat (c0 c1 c2 c3 : Nat) (h0 : c0 < 256) (h1 : c1 < 256) (h2 : c2 < 256) (h3 : c3 < 256) : ∀ X a1 a2 a3 a4 a5 : Nat, X = c0 + 256 * (c1 + 256 * (c2 + 256 * c3)) →
    a1 = X - (X / 2 &&& 1431655765) → a2 = (a1 &&& 858993459) + (a1 / 4 &&& 858993459) → a3 = (a2 + a2 / 16) &&& 252645135 → a4 = a3 + a3 / 256 → a5 = a4 + a4 / 65536 →
    (X / 2 &&& 1431655765) ≤ X ∧ a1 < 2 ^ 32 ∧ a2 < 2 ^ 32 ∧ a2 + a2 / 16 < 2 ^ 32 ∧ a3 < 2 ^ 32 ∧ a4 < 2 ^ 32 ∧ a5 &&& 63 = bc_pop c0 + bc_pop c1 + bc_pop c2 + bc_pop c3 := by
  intro X a1 a2 a3 a4 a5 eX e1 e2 e3 e4 e5
  have hs : X / 2 &&& 1431655765 = (c0 / 2 &&& 85) + 256 * ((c1 / 2 &&& 85) + 256 * ((c2 / 2 &&& 85) + 256 * (c3 / 2 &&& 85))) := by
    rw [show X / 2 = (c0 / 2 + 128 * (c1 % 2)) + 256 * ((c1 / 2 + 128 * (c2 % 2)) + 256 * ((c2 / 2 + 128 * (c3 % 2)) + 256 * (c3 / 2))) by omega,
      show (1431655765 : Nat) = 85 + 256 * (85 + 256 * (85 + 256 * 85)) from rfl, bc_and4 _ _ _ _ _ (by omega) (by omega) (by omega) (by omega),
      bc_d1 c0 h0 _ (by omega), bc_d1 c1 h1 _ (by omega), bc_d1 c2 h2 _ (by omega)]
  have p0 := bc_d1' c0 h0
  have p1 := bc_d1' c1 h1
  have p2 := bc_d1' c2 h2
  have p3 := bc_d1' c3 h3
  have k1 : a1 = bc_f1 c0 + 256 * (bc_f1 c1 + 256 * (bc_f1 c2 + 256 * bc_f1 c3)) := by
    rw [e1, hs, eX]
    simp only [bc_f1]
    omega
  have q0 : bc_f1 c0 < 256 := by simp only [bc_f1]; omega
  have q1 : bc_f1 c1 < 256 := by simp only [bc_f1]; omega
  have q2 : bc_f1 c2 < 256 := by simp only [bc_f1]; omega
  have q3 : bc_f1 c3 < 256 := by simp only [bc_f1]; omega
  have k2 : a2 = bc_f2 (bc_f1 c0) + 256 * (bc_f2 (bc_f1 c1) + 256 * (bc_f2 (bc_f1 c2) + 256 * bc_f2 (bc_f1 c3))) := by
    have e9 : a1 / 4 = (bc_f1 c0 / 4 + 64 * (bc_f1 c1 % 4)) + 256 * ((bc_f1 c1 / 4 + 64 * (bc_f1 c2 % 4)) + 256 * ((bc_f1 c2 / 4 + 64 * (bc_f1 c3 % 4)) + 256 * (bc_f1 c3 / 4))) := by omega
    rw [e2, e9, k1, show (858993459 : Nat) = 51 + 256 * (51 + 256 * (51 + 256 * 51)) from rfl, bc_and4 _ _ _ _ _ (by omega) (by omega) (by omega) (by omega), bc_and4 _ _ _ _ _ (by omega) (by omega) (by omega) (by omega),
      bc_d2 _ q0 _ (by omega), bc_d2 _ q1 _ (by omega), bc_d2 _ q2 _ (by omega)]
    simp only [bc_f2]
    omega
  have r0 := bc_d3 c0 h0
  have r1 := bc_d3 c1 h1
  have r2 := bc_d3 c2 h2
  have r3 := bc_d3 c3 h3
  have t0 := bc_d5 c0 h0
  have t1 := bc_d5 c1 h1
  have t2 := bc_d5 c2 h2
  have t3 := bc_d5 c3 h3
  generalize bc_f2 (bc_f1 c0) = g0 at *
  generalize bc_f2 (bc_f1 c1) = g1 at *
  generalize bc_f2 (bc_f1 c2) = g2 at *
  generalize bc_f2 (bc_f1 c3) = g3 at *
  have k3 : a3 = bc_f3 g0 + 256 * (bc_f3 g1 + 256 * (bc_f3 g2 + 256 * bc_f3 g3)) := by
    have e9 : a2 + a2 / 16 = (g0 + g0 / 16 + 16 * (g1 % 16)) + 256 * ((g1 + g1 / 16 + 16 * (g2 % 16)) + 256 * ((g2 + g2 / 16 + 16 * (g3 % 16)) + 256 * (g3 + g3 / 16 + 16 * 0))) := by omega
    rw [e3, e9, show (252645135 : Nat) = 15 + 256 * (15 + 256 * (15 + 256 * 15)) from rfl, bc_and4 _ _ _ _ _ (by omega) (by omega) (by omega) (by omega),
      bc_d4 g0 (by omega) _ (by omega), bc_d4 g1 (by omega) _ (by omega), bc_d4 g2 (by omega) _ (by omega), bc_d4 g3 (by omega) _ (by omega)]
  rw [t0.1, t1.1, t2.1, t3.1] at k3
  have t0 := t0.2
  have t1 := t1.2
  have t2 := t2.2
  have t3 := t3.2
  generalize bc_pop c0 = u0 at *
  generalize bc_pop c1 = u1 at *
  generalize bc_pop c2 = u2 at *
  generalize bc_pop c3 = u3 at *
  refine ⟨by omega, by omega, by omega, by omega, by omega, by omega, ?_⟩
  have k4 : a4 = (u0 + u1) + 256 * ((u1 + u2) + 256 * ((u2 + u3) + 256 * u3)) := by clear k2 k1 hs e1 e2 e3 eX; omega
  clear k3 k2 k1 hs e1 e2 e3 e4 eX
  have k5 : a4 / 65536 = (u2 + u3) + 256 * u3 := by omega
  have k6 : a5 = (u0 + u1 + u2 + u3) + 64 * (4 * ((u1 + u2 + u3) + 256 * ((u2 + u3) + 256 * u3))) := by omega
  rw [show (63 : Nat) = 2 ^ 6 - 1 from rfl, Nat.and_two_pow_sub_one_eq_mod, k6, show (2 : Nat) ^ 6 = 64 from rfl, Nat.add_mul_mod_self_left]
  omega
theorem bc_nI (x : Int32) : ∃ X : Nat, X < 2 ^ 32 ∧ x = nI X := ⟨x.toBitVec.toNat, x.toBitVec.isLt, by
  apply Int32.toBitVec_inj.1
  show x.toBitVec = BitVec.ofNat 32 _
  simp⟩
theorem bc_andI (a b : Nat) : nI a &&& nI b = nI (a &&& b) := by
  apply Int32.toBitVec_inj.1
  show BitVec.ofNat 32 a &&& BitVec.ofNat 32 b = BitVec.ofNat 32 (a &&& b)
  apply BitVec.eq_of_getLsbD_eq
  intro i hi
  simp [hi]
theorem bc_bt (X k : Nat) (hk : k < 32) : mo_b (nI X) k = X / 2 ^ k % 2 := by
  have h : bt (nI X) k = X.testBit k := by
    show (BitVec.ofNat 32 X).getLsbD k = _
    simp [hk]
  rw [mo_b, h, Nat.testBit_eq_decide_div_mod_eq]
  have h2 : X / 2 ^ k % 2 < 2 := Nat.mod_lt _ (by omega)
  by_cases q : X / 2 ^ k % 2 = 1
  · rw [q]; rfl
  · rw [if_neg (by simp [q])]; omega
theorem bc_sum (X : Nat) (c0 c1 c2 c3 : Nat) (h0 : c0 < 256) (h1 : c1 < 256) (h2 : c2 < 256) (h3 : c3 < 256) (e : X = c0 + 256 * (c1 + 256 * (c2 + 256 * c3))) : mo_bits (nI X) 32 = bc_pop c0 + bc_pop c1 + bc_pop c2 + bc_pop c3 := by
  have g0 : mo_bits (nI X) 8 = bc_pop c0 := by
    simp only [mo_bits, bc_bt X _ (by omega : (_ : Nat) < 32), bc_pop]
    omega
  have g1 : mo_bits (nI X) 16 = mo_bits (nI X) 8 + bc_pop c1 := by
    rw [show (16 : Nat) = 8 + 1 + 1 + 1 + 1 + 1 + 1 + 1 + 1 from rfl]
    simp only [mo_bits.eq_2 (nI X) (8 + _), mo_bits.eq_2 (nI X) 8, bc_bt X _ (by omega : (_ : Nat) < 32), bc_pop]
    omega
  have g2 : mo_bits (nI X) 24 = mo_bits (nI X) 16 + bc_pop c2 := by
    rw [show (24 : Nat) = 16 + 1 + 1 + 1 + 1 + 1 + 1 + 1 + 1 from rfl]
    simp only [mo_bits.eq_2 (nI X) (16 + _), mo_bits.eq_2 (nI X) 16, bc_bt X _ (by omega : (_ : Nat) < 32), bc_pop]
    omega
  have g3 : mo_bits (nI X) 32 = mo_bits (nI X) 24 + bc_pop c3 := by
    rw [show (32 : Nat) = 24 + 1 + 1 + 1 + 1 + 1 + 1 + 1 + 1 from rfl]
    simp only [mo_bits.eq_2 (nI X) (24 + _), mo_bits.eq_2 (nI X) 24, bc_bt X _ (by omega : (_ : Nat) < 32), bc_pop]
    omega
  rw [g3, g2, g1, g0]
set_option maxRecDepth 20000 in
theorem kx_bc_bits (x : Int32) : kx_bc x = nI (mo_bits x 32) := by
  obtain ⟨X, hX, rfl⟩ := bc_nI x
  obtain ⟨c0, c1, c2, c3, h0, h1, h2, h3, e⟩ : ∃ c0 c1 c2 c3 : Nat, c0 < 256 ∧ c1 < 256 ∧ c2 < 256 ∧ c3 < 256 ∧ X = c0 + 256 * (c1 + 256 * (c2 + 256 * c3)) :=
    ⟨X % 256, X / 256 % 256, X / 65536 % 256, X / 16777216, by omega, by omega, by omega, by omega, by omega⟩
  obtain ⟨l1, l2, l3, l4, l5, l6, l7⟩ := bc_nat c0 c1 c2 c3 h0 h1 h2 h3 X _ _ _ _ _ e rfl rfl rfl rfl rfl
  rw [bc_sum X c0 c1 c2 c3 h0 h1 h2 h3 e, ← l7]
  have u : ∀ (n k : Nat) (s : Int32), n < 2 ^ 32 → ((s.toUInt32 &&& Int32.toUInt32 31).toBitVec % 32).toNat = k → ((nI n).toUInt32 >>> (s.toUInt32 &&& Int32.toUInt32 31)).toInt32 = nI (n / 2 ^ k) := fun n k s hn hs => pk_ushrN hn s k hs
  simp only [kx_bc]
  rw [show (1431655765 : Int32) = nI 1431655765 from rfl, show (858993459 : Int32) = nI 858993459 from rfl, show (252645135 : Int32) = nI 252645135 from rfl,
    u X 1 (nI 1) hX (by decide), bc_andI, pk_sub l1, u _ 2 (nI 2) l2 (by decide), bc_andI, bc_andI, nI_add, u _ 4 (nI 4) l3 (by decide), nI_add, bc_andI, u _ 8 (nI 8) l5 (by decide), nI_add, u _ 16 (nI 16) l6 (by decide), nI_add, bc_andI]
end
