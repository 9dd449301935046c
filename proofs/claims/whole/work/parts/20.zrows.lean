/-! contracts with new cells; calls that are caught -/
theorem kK_eq {D : va_G} {cl : List vw_C} {tys : List (ClassId × FieldType)} {s : State} (hK : va_K D cl tys s) (i j : Nat) {c1 c2 : ClassId} (h1 : tys[i]? = some (c1, .int)) (h2 : tys[j]? = some (c2, .int)) : c1 = c2 := by
  have e1 : s.vm.findClass ("[" ++ FieldType.int.toString) = some c1 := (hK.2 i _ h1).2
  have e2 : s.vm.findClass ("[" ++ FieldType.int.toString) = some c2 := (hK.2 j _ h2).2
  exact Option.some.inj (e1.symm.trans e2)
theorem kw_of {l : Launch} {y : MethodName} {ws ws' : List Cond} {rm : Room} {dC : Nat → ClassId} {dI : Nat → Nat → Nat} {tys : List (ClassId × FieldType)} {X : va_W} {av : List Value} {Qc : (Nat → Prop) → Array Value → State → Outcome → State → Prop} {cc : ByteArray} {maxL mc ms : Nat} {ret : Option FieldType}
    (hy : plainName y.cls = true) (hw : ws = Cond.code y cc maxL ret :: ws') (hlen : (lg_sl av).length ≤ maxL)
    (body : ∀ (p : Program) (e : Env) (s : State) (m : MethodId) (below : List Frame) (meth : Method) (c : Code) (A : Nat → Prop) (ls : Array Slot), p.tables.exec = Jvm.exec → c.code = cc → c.maxLocals = maxL → meth.sig.returnType = ret → (∀ w ∈ ws, w.before av.toArray s = true) → s.vm.findClass y.cls = some m.cls → meth.locks = false → meth.name = y.name →
      (∀ q : Nat, s.heap.size ≤ q → A q) → va_P (dC, dI) vwCl X s.heap → va_K (dC, dI) vwCl tys s → va_D A X → va_S A s.heap s.heap [] → lv_has ls maxL (lv_args 0 av) →
      W p l e (headSpec ws rm).room s m av.toArray below meth c s.heap [] 0 0 (MQ below (Qc A) av.toArray s mc ms A) (F0 m 0 ls [])) (sz : Nat) :
    Met l y ws rm (kPc dC dI tys X sz av) (Qc (va_A X sz)) mc ms (va_A X sz) := by
  refine Met.ofW (cc := cc) (maxL := maxL) (ret := ret) hy hw ?_
  intro p e s m args below meth c s₁ B hml hv
  obtain ⟨rfl, hsz, hP, hK, hD0⟩ := hv
  subst hsz
  rw [lg_entry_eq]
  exact body p e s m below meth c _ _ B.exec B.bytes hml B.returns (atoms_spec (ws := ws) B.pre) (findClass_of_methodNamed B.named) B.notSynchronized (name_of_methodNamed B.named B.method).1
    (fun q h => Or.inr h) hP hK (hD0.self (sz := s.heap.size)) va_S.rf (lv_entry av hlen)
abbrev kPw (dC : Nat → ClassId) (dI : Nat → Nat → Nat) (tys : List (ClassId × FieldType)) (X : va_W) (sz : Nat) (av : List Value) : Array Value → State → Prop := va_Pc av (fun U => U.heap.size = sz ∧ va_P (dC, dI) vwCl X U.heap ∧ va_K (dC, dI) vwCl tys U ∧ va_D (fun _ => True) X ∧ kZ (va_A X sz) U ∧ va_Nc kISE kIAE U)
abbrev kNo (A : Nat → Prop) : String → State → State → Prop := vx_X (fun (_ : Unit) => False) (fun _ _ _ => True) A
/-- a contract of one of the law's own helpers: it answers r, at most one cell of six slots is new -/
def kMc (l : Launch) (y : MethodName) (ws : List Cond) (rm : Room) (dC : Nat → ClassId) (dI : Nat → Nat → Nat) (tys : List (ClassId × FieldType)) (X : va_W) (av : List Value) (r : Int32) (X2 : va_W) : Prop :=
  ∀ sz : Nat, vx_Met l y ws rm (kPw dC dI tys X sz av) (va_Qi (fun (r' : Int32) (_ : Unit) => r' = r) (kB dC dI tys X2 (va_A X sz)) (va_A X sz)) (kNo (va_A X sz)) 1 6 (va_A X sz)
theorem kPw_blind {dC : Nat → ClassId} {dI : Nat → Nat → Nat} {tys : List (ClassId × FieldType)} {X : va_W} {av : List Value} {sz : Nat} : FrameBlind (kPw dC dI tys X sz av) := fun a U g mk q => by
  obtain ⟨q0, q1, qP, qK, qD, qZ, qN⟩ := q
  exact ⟨q0, q1, qP, va_K.moved (u := U) (U := U.calling g mk a) (Vm.Alike.refl U.vm) qK, qD, qZ.calling g mk a, va_Nc.moved (u := U) (U := U.calling g mk a) (Vm.Alike.refl U.vm) qN⟩
theorem kc_of {l : Launch} {y : MethodName} {ws ws' : List Cond} {rm : Room} {dC : Nat → ClassId} {dI : Nat → Nat → Nat} {tys : List (ClassId × FieldType)} {X X2 : va_W} {av : List Value} {r : Int32} {cc : ByteArray} {maxL : Nat} {ret : Option FieldType} {hh : List (Nat × Nat × Nat × Nat)}
    (hy : plainName y.cls = true) (hw : ws = Cond.codeWith y cc maxL ret hh :: ws') (hlen : (lg_sl av).length ≤ maxL)
    (body : ∀ (p : Program) (e : Env) (s : State) (m : MethodId) (below : List Frame) (meth : Method) (c : Code) (A : Nat → Prop) (ls : Array Slot), p.tables.exec = Jvm.exec → c.code = cc → c.maxLocals = maxL → meth.sig.returnType = ret → (∀ w ∈ ws, w.before av.toArray s = true) → s.vm.findClass y.cls = some m.cls → meth.locks = false →
      (∀ q : Nat, s.heap.size ≤ q → A q) → va_P (dC, dI) vwCl X s.heap → va_K (dC, dI) vwCl tys s → va_D A X → va_S A s.heap s.heap [] → kZ A s → va_Nc kISE kIAE s → c.exceptionTable.toList = tableOf hh → lv_has ls maxL (lv_args 0 av) →
      W p l e (headSpec ws rm).room s m av.toArray below meth c s.heap [] 0 0 (MQ below (va_Qi (fun (r' : Int32) (_ : Unit) => r' = r) (kB dC dI tys X2 A) A) av.toArray s 1 6 A) (F0 m 0 ls [])) : kMc l y ws rm dC dI tys X av r X2 := by
  intro sz
  refine vx_ofWH (cc := cc) (maxL := maxL) (ret := ret) (hh := hh) hy hw ?_
  intro p e s m args below meth c s₁ B hml hv
  obtain ⟨rfl, hsz, hP, hK, hD0, hZ, hN⟩ := hv
  subst hsz
  rw [lg_entry_eq]
  exact vx_ret (body p e s m below meth c _ _ B.exec B.bytes hml B.returns (atoms_spec (ws := ws) B.pre) (findClass_of_methodNamed B.named) B.notSynchronized
    (fun q h => Or.inr h) hP hK (hD0.self (sz := s.heap.size)) va_S.rf hZ hN (vx_table (x := y) B (atoms_spec (ws := ws) B.pre _ (by rw [hw]; exact List.mem_cons_self))) (lv_entry av hlen))
section
variable {p : Program} {l : Launch} {e : Env} {R : Room} {s : State} {m : MethodId} {args : Array Value} {below : List Frame} {meth : Method} {c : Code} {H : Heap} {locs : List Loc} {cells slots : Nat} {Q : State → Prop} {cc : ByteArray} {pc : Nat} {ls : Array Slot} {rest st0 As : List Value}
variable {dC : Nat → ClassId} {dI : Nat → Nat → Nat} {tys tyc : List (ClassId × FieldType)} {ws X X2 Xr : va_W} {A : Nat → Prop} {H0 : Heap} {Ts wy wy' : List Cond} {own C E : String} {y : MethodName} {rm : Room} {r : Int32} {index maxL nL n ci q0 : Nat} {bytes : ByteArray} {ret : Option FieldType} {b : Addr} {hh : List (Nat × Nat × Nat × Nat)}
theorem kc_ret (hx : p.tables.exec = Jvm.exec) (hb : c.code = cc) (hr : meth.sig.returnType = some .int) (hlocks : meth.locks = false) (hP : va_P (dC, dI) vwCl X H) (hK : va_K (dC, dI) vwCl tys s) (hD : va_D A X) (hS : va_S A s.heap H locs) {v : Int32} (hcl : cells ≤ 1 ∧ slots ≤ 6) (hdg : decode cc pc = .ok (.ireturn, 1)) (hv : v = r) (hX : X = X2) :
    W p l e R s m args below meth c H locs cells slots (MQ below (va_Qi (fun (r' : Int32) (_ : Unit) => r' = r) (kB dC dI tys X2 A) A) args s 1 6 A) (F0 m pc ls [.int v]) := by
  subst hX
  refine W.widen (k := 1) (n := 6) hcl.1 hcl.2 ?_
  exact W.iret (v := v) hx hb hr (fun t ht hW => ⟨⟨v, (), rfl, hv, by rw [ht]; exact hP, va_K.moved hW.alike hK, hD⟩, hS.F ht⟩) hS.2.2 hdg hlocks
/-- a call of an object's method that throws, over a handler -/
theorem kx_call (hM : kMx l y wy rm dC dI tyc X (.ref b :: As) E) (hx : p.tables.exec = Jvm.exec) (hb : c.code = cc) (hml : c.maxLocals = nL) (hown : s.vm.findClass own = some m.cls) (hts : ∀ w ∈ Ts, w.before args s = true) (hG : GoodIn Ts (wsV own index C y wy)) (hw : wy = Cond.code y bytes maxL ret :: wy') (hrm : rm.cells = 1 ∧ rm.slots = 6)
    (hd : y.cls = C ∧ y.cls ≠ "java/lang/invoke/MethodHandle" ∧ y.cls ≠ "java/lang/invoke/VarHandle" ∧ (parseMethodDescriptor y.desc).map (fun d => d.parameters.length) = some n) (hAl : As.length = n) (hR : rm.frames + 1 ≤ R.frames ∧ 8 + (maxL + 11) + rm.locals ≤ R.locals)
    (hK : va_K (dC, dI) vwCl tys s) (hP : va_P (dC, dI) vwCl ws H) (hD : va_D A ws) (hS : va_S A s.heap H locs) (hA : ∀ q : Nat, s.heap.size ≤ q → A q) (hZ : kZ A s) (isT isC isR : List Nat) (hT : isT.filterMap (fun i => tys[i]?) = tyc) (hC : isC.map (fun i => ws[i]?) = X.map some) (hRr : isR.map (fun i => ws[i]?) = Xr.map some) (hnd : va_nd isR = true) (hdis : ∀ i ∈ isR, i ∉ isC)
    {fs : List Value} (he : X[q0]? = some (b, .inr (ci, fs))) {T : u_T} {N : Nat} (hc : vwCl[ci]? = some (C, T, N)) (hsub : isC.filterMap (fun i => ws[i]?) = X) (hcd : va_nd isC = true)
    (hl : ls.size = nL) (hst : st0 = As.reverse ++ .ref b :: rest) (hroom : (rest.map fun v => v.category).sum ≤ 8) (hdg : decode cc pc = .ok (.invokevirtual index, 3)) (hcs : cells + 1 ≤ R.cells ∧ slots + 6 ≤ R.slots)
    (kk : ∀ (ce : Cell) (q9 : Addr) (H1 : Heap) (locs1 : List Loc), va_P (dC, dI) vwCl (Xr ++ X) H1 → va_D A (Xr ++ X) → va_S A s.heap H1 locs1 → H1[q9]? = some ce → ce.vm = .none → s.vm.findClass E = some ce.cls → vx_W p l e R s m args below meth c H1 locs1 (cells + 1) (slots + 6) Q (F0 m pc ls rest) q9) :
    W p l e R s m args below meth c H locs cells slots Q (F0 m pc ls st0) := by
  have hPc : va_P (dC, dI) vwCl X H := hP.sub (ws' := X) isC hsub
  have hDc : va_D A X := hD.sub (ws' := X) isC hcd hC
  have hKc : va_K (dC, dI) vwCl tyc s := hK.sub (tys' := tyc) isT hT
  have hFc := va_free (wc := X) hD hS hA isC hC
  have hr : vx_Run p l e R s m args below meth c H locs cells slots 1 6 (F0 m pc ls st0) rest (fun _ _ _ => False) (kXC dC dI tyc X E (va_A X H.size)) (va_A X H.size) := vx_runV (As := As) (rest := rest) ⟨hx, hb, hml, hown, hts⟩ (hM H.size) (cwV n hts hG hw hrm.1 hrm.2 hd hR) ⟨kPz_blind, va_recv hKc hPc hc he, fun U hU hW => ⟨rfl, by rw [hU], by rw [hU]; exact hPc, va_K.moved hW.alike hKc, hDc.weaken (fun _ _ _ _ => trivial), hZ.at hS hU hW hFc⟩⟩ (g := F0 m pc ls st0) rfl hAl hl hst (lv_room hroom) hdg hcs
  intro T9 hT9 X9
  rcases hr T9 hT9 X9 with ⟨v, st₀, t, T', L, h0, X', hL, e1, e2, hF, st⟩ | ⟨q, st₀, t, T', L, E', ce, h0, X', hL, e1, e2, ⟨u, hp, ⟨hE, hP1, hK1, hD1⟩, hF⟩, hce, hcv, hcl, st⟩
  · exact hF.elim
  · subst hE
    obtain ⟨k1, k2, k3⟩ := vx_keep (A0 := A) (A1 := va_A X H.size) (H0 := s.heap) h0 e1 hS (fun q _ h => hFc q h) hFc hL hF
    rw [← e1] at hP1 hce
    obtain ⟨hP2, hD2⟩ := va_join (wr := Xr) (w1 := X) hP hD isC isR hC hRr hnd hdis k2 hFc hP1 hD1
    obtain ⟨t2, a1, b1⟩ := kk ce q T'.heap (locs ++ L) hP2 hD2 k3 hce hcv hcl T' rfl X'
    exact ⟨t2, st.trans a1, b1⟩
/-- a call of one of the law's helpers -/
theorem kc_call (hM : kMc l y wy rm dC dI tyc X As r X2) (hx : p.tables.exec = Jvm.exec) (hb : c.code = cc) (hml : c.maxLocals = nL) (hown : s.vm.findClass own = some m.cls) (hts : ∀ w ∈ Ts, w.before args s = true) (hG : GoodIn Ts (va_wsS own index y wy)) (hw : wy = Cond.codeWith y bytes maxL ret hh :: wy') (hrm : rm.cells = 1 ∧ rm.slots = 6)
    (hd : y.cls ≠ "java/lang/invoke/MethodHandle" ∧ y.cls ≠ "java/lang/invoke/VarHandle" ∧ (parseMethodDescriptor y.desc).map (fun d => d.parameters.length) = some n) (hAl : As.length = n) (hR : rm.frames + 1 ≤ R.frames ∧ 8 + (maxL + 11) + rm.locals ≤ R.locals)
    (hK : va_K (dC, dI) vwCl tys s) (hP : va_P (dC, dI) vwCl ws H) (hD : va_D A ws) (hS : va_S A s.heap H locs) (hA : ∀ q : Nat, s.heap.size ≤ q → A q) (hZ : kZ A s) (hN : va_Nc kISE kIAE s) (isT isC isR : List Nat) (hT : isT.filterMap (fun i => tys[i]?) = tyc) (hC : isC.map (fun i => ws[i]?) = X.map some) (hRr : isR.map (fun i => ws[i]?) = Xr.map some) (hnd : va_nd isR = true) (hdis : ∀ i ∈ isR, i ∉ isC)
    (hsub : isC.filterMap (fun i => ws[i]?) = X) (hcd : va_nd isC = true)
    (hl : ls.size = nL) (hst : st0 = As.reverse ++ rest) (hroom : (rest.map fun v => v.category).sum ≤ 8) (hdg : decode cc pc = .ok (.invokestatic index, 3)) (hcs : cells + 1 ≤ R.cells ∧ slots + 6 ≤ R.slots)
    (kk : ∀ (H1 : Heap) (locs1 : List Loc), va_P (dC, dI) vwCl (Xr ++ X2) H1 → va_D A (Xr ++ X2) → va_S A s.heap H1 locs1 → W p l e R s m args below meth c H1 locs1 (cells + 1) (slots + 6) Q (F0 m (pc + 3) ls (.int r :: rest))) :
    W p l e R s m args below meth c H locs cells slots Q (F0 m pc ls st0) := by
  have hPc : va_P (dC, dI) vwCl X H := hP.sub (ws' := X) isC hsub
  have hDc : va_D A X := hD.sub (ws' := X) isC hcd hC
  have hKc : va_K (dC, dI) vwCl tyc s := hK.sub (tys' := tyc) isT hT
  have hFc := va_free (wc := X) hD hS hA isC hC
  refine vx_calli (vx_runSX (hh := hh) (As := As) (rest := rest) ⟨hx, hb, hml, hown, hts⟩ (hM H.size) (vx_cwSW n hts hG hw hrm.1 hrm.2 hd hR) ⟨kPw_blind, fun U hU hW => ⟨rfl, by rw [hU], by rw [hU]; exact hPc, va_K.moved hW.alike hKc, hDc.weaken (fun _ _ _ _ => trivial), hZ.at hS hU hW hFc, va_Nc.moved hW.alike hN⟩⟩ rfl hAl hl hst (lv_room hroom) hdg hcs) hS (fun q _ h => hFc q h) hFc (fun q _ h => hFc q h)
    (fun E ce q9 u t H1 locs1 _ _ hf => hf.elim) (fun r1 u t H1 locs1 ht hvm hw1 hB hz1 hk1 hS1 => ?_)
  obtain ⟨hP1, hK1, hD1⟩ := hB
  rw [ht] at hP1
  obtain ⟨hP2, hD2⟩ := va_join (wr := Xr) (w1 := X2) hP hD isC isR hC hRr hnd hdis hk1 hFc hP1 hD1
  subst hw1
  exact kk H1 locs1 hP2 hD2 hS1
end
abbrev wO (cL : ClassId) (o0 : Nat) (fo : Nat → Int64) : va_W := [(o0, .inl (cL, 1, .inr (.inl fo)))]
theorem ko_in : vp_in (nI 0) 1 := vp_in_nI (by decide) (by decide)
