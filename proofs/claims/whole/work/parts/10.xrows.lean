/-! calls that throw: the class's name, nothing changed, one cell of six slots made -/
abbrev kNm : List String := ["java/lang/RuntimeException", "java/lang/Exception"]
def kISE : String := "java/lang/IllegalStateException"
def kIAE : String := "java/lang/IllegalArgumentException"
def kBad (E : String) : List Cond := [.castable E E, .declares (Bundle.initS "java/lang/RuntimeException"), .declares (Bundle.initS "java/lang/Exception"), .declares (Bundle.initS Bundle.tN)]
def kStrs : List (Nat × String) := [(56, "there are 8 transactions"), (85, "there are 60 traces"), (133, "no such level"), (141, "what is 0 or 1"), (143, "what is 0 to 6"), (145, "the power is off"), (147, "there is no transaction"), (153, "no such cell"), (155, "no such word"), (157, "no such name"), (159, "no such point")]
/-- what a throw needs of the world: two statics of Throwable, some words of the tables, the texts -/
def kZ (A : Nat → Prop) (U : State) : Prop :=
  vx_Zq Bundle.tN "UNASSIGNED_STACK" Bundle.steD A U U.heap ∧ vx_Zq Bundle.tN "SUPPRESSED_SENTINEL" Bundle.listD A U U.heap ∧ (∀ w ∈ kBad kISE, va_Nw w U) ∧ (∀ w ∈ kBad kIAE, va_Nw w U) ∧ ∀ q ∈ kStrs, ∃ a : Nat, vk_R RX0 q.1 q.2 a U
theorem kBad_warm {E : String} {s U : State} (hW : s.WarmedH U.vm) (h : ∀ w ∈ kBad E, va_Nw w s) : ∀ w ∈ kBad E, va_Nw w U := by
  intro w hw
  have h1 := h w hw
  simp only [kBad, List.mem_cons, List.not_mem_nil, or_false] at hw
  rcases hw with rfl | rfl | rfl | rfl
  · exact va_Nw.warmC hW h1
  · exact va_Nw.warmD hW h1
  · exact va_Nw.warmD hW h1
  · exact va_Nw.warmD hW h1
theorem kZ.calling {A : Nat → Prop} {U : State} (h : kZ A U) (g : JFrame) (mk : MethodId) (a : Array Value) : kZ A (U.calling g mk a) := by
  obtain ⟨h1, h2, h3, h4, h5⟩ := h
  have hW : U.WarmedH (U.calling g mk a).vm := State.WarmedH.refl U
  exact ⟨vx_Zq.moved (u := U) (U := U.calling g mk a) (Vm.Alike.refl U.vm) h1, vx_Zq.moved (u := U) (U := U.calling g mk a) (Vm.Alike.refl U.vm) h2, kBad_warm hW h3, kBad_warm hW h4, fun q hq => by obtain ⟨b, hb⟩ := h5 q hq; exact ⟨b, vk_R.warm hW hb⟩⟩
theorem kZ.at {A B : Nat → Prop} {s U : State} {H : Heap} {locs : List Loc} (h : kZ A s) (hS : va_S A s.heap H locs) (hU : U.heap = H) (hW : s.WarmedH U.vm) (hAB : ∀ q, B q → A q) : kZ B U := by
  obtain ⟨h1, h2, h3, h4, h5⟩ := h
  refine ⟨?_, ?_, kBad_warm hW h3, kBad_warm hW h4, fun q hq => by obtain ⟨b, hb⟩ := h5 q hq; exact ⟨b, vk_R.warm hW hb⟩⟩
  · rw [hU]; exact (vx_Zq.moved hW.alike (h1.kept hS.2.1)).narrow hAB
  · rw [hU]; exact (vx_Zq.moved hW.alike (h2.kept hS.2.1)).narrow hAB
abbrev kPz (dC : Nat → ClassId) (dI : Nat → Nat → Nat) (tys : List (ClassId × FieldType)) (X : va_W) (sz : Nat) (av : List Value) : Array Value → State → Prop := va_Pc av (fun U => U.heap.size = sz ∧ va_P (dC, dI) vwCl X U.heap ∧ va_K (dC, dI) vwCl tys U ∧ va_D (fun _ => True) X ∧ kZ (va_A X sz) U)
abbrev kXC (dC : Nat → ClassId) (dI : Nat → Nat → Nat) (tys : List (ClassId × FieldType)) (X : va_W) (E : String) (A : Nat → Prop) : String → State → State → Prop := vx_X (fun (_ : Unit) => True) (fun E' _ t => E' = E ∧ va_P (dC, dI) vwCl X t.heap ∧ va_K (dC, dI) vwCl tys t ∧ va_D A X) A
def kMx (l : Launch) (y : MethodName) (ws : List Cond) (rm : Room) (dC : Nat → ClassId) (dI : Nat → Nat → Nat) (tys : List (ClassId × FieldType)) (X : va_W) (av : List Value) (E : String) : Prop :=
  ∀ sz : Nat, vx_Met l y ws rm (kPz dC dI tys X sz av) (fun _ _ _ _ => False) (kXC dC dI tys X E (va_A X sz)) 1 6 (va_A X sz)
theorem kMx_of {l : Launch} {y : MethodName} {ws ws' : List Cond} {rm : Room} {dC : Nat → ClassId} {dI : Nat → Nat → Nat} {tys : List (ClassId × FieldType)} {X : va_W} {av : List Value} {E : String} {cc : ByteArray} {maxL : Nat} {ret : Option FieldType}
    (hy : plainName y.cls = true) (hw : ws = Cond.code y cc maxL ret :: ws') (hlen : (lg_sl av).length ≤ maxL)
    (body : ∀ (p : Program) (e : Env) (s : State) (m : MethodId) (below : List Frame) (meth : Method) (c : Code) (A : Nat → Prop) (ls : Array Slot), p.tables.exec = Jvm.exec → c.code = cc → c.maxLocals = maxL → meth.sig.returnType = ret → (∀ w ∈ ws, w.before av.toArray s = true) → s.vm.findClass y.cls = some m.cls → meth.locks = false →
      (∀ q : Nat, s.heap.size ≤ q → A q) → va_P (dC, dI) vwCl X s.heap → va_K (dC, dI) vwCl tys s → va_D A X → va_S A s.heap s.heap [] → kZ A s → (∀ x ∈ c.exceptionTable.toList, False) → lv_has ls maxL (lv_args 0 av) →
      W p l e (headSpec ws rm).room s m av.toArray below meth c s.heap [] 0 0 (vx_MQ below (fun _ _ _ _ => False) (kXC dC dI tys X E A) av.toArray s 1 6 A) (F0 m 0 ls [])) : kMx l y ws rm dC dI tys X av E := by
  intro sz
  refine vx_ofW (cc := cc) (maxL := maxL) (ret := ret) hy hw ?_
  intro p e s m args below meth c s₁ B hml hxt hv
  obtain ⟨rfl, hsz, hP, hK, hD0, hZ⟩ := hv
  subst hsz
  rw [lg_entry_eq]
  exact body p e s m below meth c _ _ B.exec B.bytes hml B.returns (atoms_spec (ws := ws) B.pre) (findClass_of_methodNamed B.named) B.notSynchronized
    (fun q h => Or.inr h) hP hK (hD0.self (sz := s.heap.size)) va_S.rf hZ hxt (lv_entry av hlen)
section
variable {p : Program} {l : Launch} {e : Env} {R : Room} {s : State} {m : MethodId} {args : Array Value} {below : List Frame} {meth : Method} {c : Code} {H : Heap} {locs : List Loc} {cells slots : Nat} {Q : State → Prop} {cc : ByteArray} {pc : Nat} {ls : Array Slot} {rest st0 As : List Value}
variable {dC : Nat → ClassId} {dI : Nat → Nat → Nat} {tys tyc : List (ClassId × FieldType)} {ws X Y : va_W} {A : Nat → Prop} {H0 : Heap} {Ts wy wy' : List Cond} {own C E : String} {y : MethodName} {rm : Room} {r : Int32} {index maxL nL n ci q0 : Nat} {bytes : ByteArray} {ret : Option FieldType} {b : Addr} {Qc : Array Value → State → Outcome → State → Prop}
theorem va_P.keep {D : va_G} {cl : List vw_C} {H1 : Heap} (h : va_P D cl ws H) (hk : ∀ q : Nat, q < H.size → H1[q]? = H[q]?) : va_P D cl ws H1 := fun k q hq => (h k q hq).kept (hk q.1 (h k q hq).lt)
/-- throw new E(text) -/
theorem kx_throw {text : String} {ik is ic : Nat} (hx : p.tables.exec = Jvm.exec) (hb : c.code = cc) (hl0 : l.stackTraces = false) (hown : s.vm.findClass RX0 = some m.cls) (hml : c.maxLocals = nL) (hfit : Bundle.fit E = true)
    (hk : (Cond.classLink RX0 ik E).before args s = true) (hini : (Cond.initialized E).before args s = true) (hg1 : ∀ w ∈ (vx_atS RX0 ic E kNm).filter goodWord, w.before args s = true) (hg2 : ∀ w ∈ (vx_atS RX0 ic E kNm).filter (fun w => !goodWord w), w ∈ kBad E) (hE : E = kISE ∨ E = kIAE)
    (hgood : ∀ w ∈ Cond.classLink RX0 ik E :: Cond.initialized E :: vx_atS RX0 ic E kNm, vx_ot w = true) (hst : (is, text) ∈ kStrs) (hZ : kZ A s)
    (hP : va_P (dC, dI) vwCl X H) (hK : va_K (dC, dI) vwCl tys s) (hD : va_D A X) (hS : va_S A s.heap H locs) (hxt : ∀ x ∈ c.exceptionTable.toList, False) (hlocks : meth.locks = false) (hl : ls.size = nL)
    (d0 : decode cc pc = .ok (.new ik, 3)) (d3 : decode cc (pc + 3) = .ok (.dup, 1)) (d4 : decode cc (pc + 4) = .ok (.ldc is, 2)) (d6 : decode cc (pc + 6) = .ok (.invokespecial ic, 3)) (d9 : decode cc (pc + 9) = .ok (.athrow, 1))
    (hR : 5 < R.frames ∧ 90 ≤ R.locals ∧ 1 ≤ R.cells ∧ 6 ≤ R.slots) : W p l e R s m args below meth c H locs 0 0 (vx_MQ below Qc (kXC dC dI tys X E A) args s 1 6 A) (F0 m pc ls []) := by
  obtain ⟨sa, hsa⟩ := hZ.2.2.2.2 _ hst
  have hbad : ∀ w ∈ kBad E, va_Nw w s := by
    rcases hE with rfl | rfl
    · exact hZ.2.2.1
    · exact hZ.2.2.2.1
  have hbad2 : ∀ w ∈ kBad E, w.before args s = true := by
    intro w hw
    have h1 := hbad w hw
    simp only [kBad, List.mem_cons, List.not_mem_nil, or_false] at hw
    rcases hw with rfl | rfl | rfl | rfl <;> exact va_Nw.use rfl h1
  refine vx_throwS (names := kNm) (sa := sa) (text := text) hx hb hl0 hown hfit (by decide +kernel) hk hini hsa (vx_hat hg1 hg2 hbad2) hgood hZ.1 hZ.2.1 hS (hl.trans hml.symm) d0 d3 d4 d6 d9 (fun x hx9 => (hxt x hx9).elim) ?_ ?_ ?_ ?_ hlocks ?_ hS.2.2 (by omega) (by omega)
  · show 2 + 3 < R.frames
    omega
  · show 0 + (13 * (2 + 1) + 43) ≤ R.locals
    omega
  · omega
  · omega
  · intro t hvm hz hk9
    refine ⟨(), trivial, ⟨rfl, hP.keep hk9, hK.moved hvm, hD⟩, Nat.le_trans hS.1 hz, fun q h1 h2 => ?_⟩
    rw [hk9 q (Nat.lt_of_lt_of_le h1 hS.1)]
    exact hS.2.1 q h1 h2
theorem kPz_blind {av : List Value} {sz : Nat} : FrameBlind (kPz dC dI tys X sz av) := fun a U g mk q => by
  obtain ⟨q0, q1, qP, qK, qD, qZ⟩ := q
  exact ⟨q0, q1, qP, va_K.moved (u := U) (U := U.calling g mk a) (Vm.Alike.refl U.vm) qK, qD, qZ.calling g mk a⟩
/-- a call of an object's method that throws: it goes through -/
theorem kx_thru (hM : kMx l y wy rm dC dI tys X (.ref b :: As) E) (hx : p.tables.exec = Jvm.exec) (hb : c.code = cc) (hml : c.maxLocals = nL) (hown : s.vm.findClass own = some m.cls) (hts : ∀ w ∈ Ts, w.before args s = true) (hG : GoodIn Ts (wsV own index C y wy)) (hw : wy = Cond.code y bytes maxL ret :: wy') (hrm : rm.cells = 1 ∧ rm.slots = 6)
    (hd : y.cls = C ∧ y.cls ≠ "java/lang/invoke/MethodHandle" ∧ y.cls ≠ "java/lang/invoke/VarHandle" ∧ (parseMethodDescriptor y.desc).map (fun d => d.parameters.length) = some n) (hAl : As.length = n) (hR : rm.frames + 1 ≤ R.frames ∧ 8 + (maxL + 11) + rm.locals ≤ R.locals ∧ 1 ≤ R.cells ∧ 6 ≤ R.slots)
    (hK : va_K (dC, dI) vwCl tys s) (hP : va_P (dC, dI) vwCl X H) (hD : va_D A X) (hS : va_S A s.heap H locs) (hA : ∀ q : Nat, s.heap.size ≤ q → A q) (hZ : kZ A s) (hxt : ∀ x ∈ c.exceptionTable.toList, False) (hlocks : meth.locks = false) (isC : List Nat) (hC : isC.map (fun i => X[i]?) = X.map some)
    {fs : List Value} (he : X[q0]? = some (b, .inr (ci, fs))) {T : u_T} {N : Nat} (hc : vwCl[ci]? = some (C, T, N))
    (hl : ls.size = nL) (hst : st0 = As.reverse ++ .ref b :: rest) (hroom : (rest.map fun v => v.category).sum ≤ 8) (hdg : decode cc pc = .ok (.invokevirtual index, 3)) :
    W p l e R s m args below meth c H locs 0 0 (vx_MQ below Qc (kXC dC dI tys X E A) args s 1 6 A) (F0 m pc ls st0) := by
  have hFc := va_free (wc := X) hD hS hA isC hC
  have hr : vx_Run p l e R s m args below meth c H locs 0 0 1 6 (F0 m pc ls st0) rest (fun _ _ _ => False) (kXC dC dI tys X E (va_A X H.size)) (va_A X H.size) := vx_runV (cells := 0) (slots := 0) (As := As) (rest := rest) ⟨hx, hb, hml, hown, hts⟩ (hM H.size) (cwV n hts hG hw hrm.1 hrm.2 hd ⟨hR.1, hR.2.1⟩) ⟨kPz_blind, va_recv hK hP hc he, fun U hU hW => ⟨rfl, by rw [hU], by rw [hU]; exact hP, va_K.moved hW.alike hK, hD.weaken (fun _ _ _ _ => trivial), hZ.at hS hU hW hFc⟩⟩ (g := F0 m pc ls st0) rfl hAl hl hst (lv_room hroom) hdg ⟨by omega, by omega⟩
  intro T9 hT X9
  rcases hr T9 hT X9 with ⟨v, st₀, t, T', L, h0, X', hL, e1, e2, hF, st⟩ | ⟨q, st₀, t, T', L, E', ce, h0, X', hL, e1, e2, ⟨u, hp, ⟨hE, hP1, hK1, hD1⟩, hF⟩, hce, hcv, hcl, st⟩
  · exact hF.elim
  · obtain ⟨k1, k2, k3⟩ := vx_keep (A0 := A) (A1 := va_A X H.size) (H0 := s.heap) h0 e1 hS (fun q _ h => hFc q h) hFc hL hF
    have hD2 : va_D A X := hD
    have hx9 := vx_out (pc := pc) (ls := ls) (rest := rest) (Qc := Qc) (XC := kXC dC dI tys X E A) (mc := 1) (ms := 6) (free := A) (locs := locs ++ L) (cells := 0 + 1) (slots := 0 + 6) (p := p) (l := l) (e := e) (R := R) (s := s) (m := m) (args := args) (below := below) (meth := meth) (c := c) (H := T'.heap) (E := E') (ce := ce) (q := q) (fun x hx9 => (hxt x hx9).elim) hlocks (by rw [e1]; exact hce) hcv hcl
      (fun t2 ht2 hvm2 => ⟨(), trivial, ⟨hE, by rw [ht2, e1]; exact hP1, hK.moved hvm2, hD2⟩, (show va_F A s t2 from k3.F ht2)⟩) k3.2.2 (by omega) (by omega)
    obtain ⟨t2, a1, b1⟩ := hx9 T' rfl X'
    exact ⟨t2, st.trans a1, b1⟩
end
theorem kx_pw_o (D : kx_D) (i : Nat) (v : Int32) (k : Nat) (h : k ≠ i) : (kx_pw D i v).1 k = D.1 k := by
  rw [kx_pw]
  split
  · split
    · rfl
    · exact pk_un h
  · rfl
theorem kx_hf_o (D : kx_D) (k : Nat) (h : 32 ≤ k) : ∀ j, (kx_hf D j).1.1 k = D.1 k
  | 0 => rfl
  | j + 1 => by
    rw [kx_hf]
    split
    · exact kx_hf_o D k h j
    · rename_i h1
      obtain ⟨ci, hci, eci⟩ := kx_isCell_of h1
      show (kx_pw _ _ _).1 k = _
      rw [kx_pw_o _ _ _ _ (by rw [eci, nI_clamp (by omega)]; omega)]
      exact kx_hf_o D k h j
