section KXS
/-- E can be cast to nm -/
def CsT (E nm : String) (U : State) : Prop := ∃ a b : ClassId, U.vm.findClass E = some a ∧ U.vm.findClass nm = some b ∧ U.vm.assignable a b = true
theorem CsT.moved {E nm : String} {u U : State} (hvm : u.vm.Alike U.vm) (h : CsT E nm u) : CsT E nm U := by
  obtain ⟨a, b, h1, h2, h3⟩ := h
  exact ⟨a, b, by rw [hvm.findClass]; exact h1, by rw [hvm.findClass]; exact h2, by rw [hvm.assignable]; exact h3⟩
theorem CsT.of {E nm : String} {args : Array Value} {s : State} (h : (Cond.castable E nm).before args s = true) : CsT E nm s := by
  obtain ⟨a, b, h1, h2, h3⟩ := Cond.castable_spec h
  exact ⟨a, b, h1, h2, h3⟩
theorem CsT.word {E nm : String} {args : Array Value} {s : State} (h : CsT E nm s) : (Cond.castable E nm).before args s = true := by
  obtain ⟨a, b, h1, h2, h3⟩ := h
  simp [Cond.before, Cond.holds, Cond.value, h1, h2, h3]
/-- the two statics that a throw reads lie outside A -/
def XT (A : Nat → Prop) (U : State) (H : Heap) : Prop := vx_Zq Bundle.tN "UNASSIGNED_STACK" Bundle.steD A U H ∧ vx_Zq Bundle.tN "SUPPRESSED_SENTINEL" Bundle.listD A U H
theorem XT.moved {A : Nat → Prop} {u U : State} {H : Heap} (hvm : u.vm.Alike U.vm) (h : XT A u H) : XT A U H := ⟨vx_Zq.moved hvm h.1, vx_Zq.moved hvm h.2⟩
theorem XT.kept {A : Nat → Prop} {U : State} {H H1 : Heap} (h : XT A U H) (hq : ∀ a : Nat, a < H.size → ¬ A a → H1[a]? = H[a]?) : XT A U H1 := ⟨h.1.kept hq, h.2.kept hq⟩
theorem XT.narrow {A B : Nat → Prop} {U : State} {H : Heap} (h : XT A U H) (hAB : ∀ q, B q → A q) : XT B U H := ⟨h.1.narrow hAB, h.2.narrow hAB⟩
/-- what a throw of E asks of the tables beyond the good words -/
def XC (E : String) (U : State) : Prop := CsT E E U ∧ va_Nw (.declares (Bundle.init0 "java/lang/RuntimeException")) U ∧ va_Nw (.declares (Bundle.init0 "java/lang/Exception")) U ∧ va_Nw (.declares (Bundle.init0 "java/lang/Throwable")) U
theorem k_decl {x : MethodName} {u U : State} (hvm : u.vm.Alike U.vm) (h : va_Nw (.declares x) u) : va_Nw (.declares x) U := va_tabs rfl (rfl : (u.setVm U.vm).vm = U.vm) (by rw [Cond.declares_setVm hvm]; exact h)
theorem XC.moved {E : String} {u U : State} (hvm : u.vm.Alike U.vm) (h : XC E u) : XC E U := ⟨h.1.moved hvm, k_decl hvm h.2.1, k_decl hvm h.2.2.1, k_decl hvm h.2.2.2⟩
def xB (E : String) : List Cond := [Cond.castable E E, .declares (Bundle.init0 "java/lang/RuntimeException"), .declares (Bundle.init0 "java/lang/Exception"), .declares (Bundle.init0 "java/lang/Throwable")]
theorem XC.words {E : String} {s : State} {args : Array Value} (h : XC E s) : ∀ w ∈ xB E, w.before args s = true := vx_c h.1.word (vx_c (va_any rfl h.2.1) (vx_c (va_any rfl h.2.2.1) (vx_c (va_any rfl h.2.2.2) vx_n)))
def XE (E : String) (A : Nat → Prop) (U : State) : Prop := XT A U U.heap ∧ XC E U
/-- the end of a method that throws E: its cells are known -/
def QX (D : va_G) (ty : List (ClassId × FieldType)) (E : String) (w1 : va_W) (A : Nat → Prop) : String → State → State → Prop := fun E1 st t =>
  E1 = E ∧ va_P D vwCl w1 t.heap ∧ va_K D vwCl ty t ∧ va_D A w1 ∧ va_F A st t
def QF : Array Value → State → Outcome → State → Prop := fun _ _ _ _ => False
def KX (l : Launch) (y : MethodName) (cc : ByteArray) (n : Nat) (ret : Option FieldType) (rm : Room) (D : va_G) (ty : List (ClassId × FieldType)) (av : List Value) (w0 : va_W) (E : String) (w1 : va_W) : Prop :=
  ∀ sz : Nat, vx_Met l y (wM y cc n ret) rm (va_Pc av (fun U => U.heap.size = sz ∧ va_P D vwCl w0 U.heap ∧ va_K D vwCl ty U ∧ va_D (fun _ => True) w0 ∧ XE E (va_A w0 sz) U)) QF (QX D ty E w1 (va_A w0 sz)) 1 6 (va_A w0 sz)
theorem KX.of {l : Launch} {y : MethodName} {cc : ByteArray} {n : Nat} {ret : Option FieldType} {rm : Room} {D : va_G} {ty : List (ClassId × FieldType)} {av : List Value} {w0 : va_W} {E : String} {w1 : va_W} (hy : plainName y.cls = true) (hle : (lg_sl av).length ≤ n)
    (body : ∀ (p : Program) (e : Env) (s : State) (m : MethodId) (below : List Frame) (meth : Method) (c : Code) (A : Nat → Prop) (ls : Array Slot) (args : Array Value) (Q : State → Prop), Q = vx_MQ below QF (QX D ty E w1 A) args s 1 6 A → Cx p s m meth c args y.cls cc n ret → (∀ q, s.heap.size ≤ q → A q) → va_K D vwCl ty s → va_P D vwCl w0 s.heap → va_D A w0 → lv_has ls n (lv_args 0 av) → (∀ x ∈ c.exceptionTable.toList, False) → XE E A s →
      W p l e rm s m args below meth c s.heap [] 0 0 Q (F0 m 0 ls [])) : KX l y cc n ret rm D ty av w0 E w1 := by
  intro sz
  refine vx_ofW (cc := cc) (maxL := n) (ret := ret) hy rfl ?_
  intro p e s m args below meth c s₁ B hml htab hv
  obtain ⟨rfl, hsz, hP, hK, hD0, hX⟩ := hv
  subst hsz
  have hts := atoms_spec (ws := wM y cc n ret) B.pre
  have hD := hD0.self (sz := s.heap.size)
  have hl := lv_entry av (n := n) hle
  rw [lg_entry_eq]
  exact body p e s m below meth c _ _ _ _ rfl ⟨B.exec, B.bytes, B.returns, hml, findClass_of_methodNamed B.named, fun w h => hts w (List.mem_cons_of_mem _ h), B.notSynchronized⟩ (fun q h => Or.inr h) hK hP hD hl htab hX
theorem k_xblind {D : va_G} {ty : List (ClassId × FieldType)} {w0 : va_W} {av : List Value} {sz : Nat} {E : String} {A : Nat → Prop} : FrameBlind (va_Pc av (fun U => U.heap.size = sz ∧ va_P D vwCl w0 U.heap ∧ va_K D vwCl ty U ∧ va_D (fun _ => True) w0 ∧ XE E A U)) := by
  intro a U g mk q
  obtain ⟨q0, q1, qP, qK, qD, qX⟩ := q
  exact ⟨q0, q1, qP, va_K.moved (u := U) (U := U.calling g mk a) (Vm.Alike.refl U.vm) qK, qD, XT.moved (u := U) (U := U.calling g mk a) (Vm.Alike.refl U.vm) qX.1, XC.moved (u := U) (U := U.calling g mk a) (Vm.Alike.refl U.vm) qX.2⟩
section KXV
variable {p : Program} {l : Launch} {e : Env} {R : Room} {s : State} {m : MethodId} {args : Array Value} {below : List Frame} {meth : Method} {c : Code} {H : Heap} {locs : List Loc} {cells slots : Nat} {Q : State → Prop}
variable {pc : Nat} {ls : Array Slot} {rest st0 : List Value} {a : Array Value} {A A0 A1 : Nat → Prop} {H0 : Heap} {free : Addr → Prop} {D : va_G} {ty : List (ClassId × FieldType)} {rv : Option Value} {w0 w1 ws wr ws1 : va_W} {cc bytes : ByteArray}
/-- new; dup; invokespecial; athrow -/
theorem kx_throw {own E : String} {names : List String} {ik ic : Nat} (hx : p.tables.exec = Jvm.exec) (hb : c.code = cc) (hst : l.stackTraces = false) (hown : s.vm.findClass own = some m.cls) (hts : ∀ w ∈ kT, w.before args s = true)
    (hfit : Bundle.fit E = true ∧ ∀ n ∈ names, Bundle.fit n = true) (hk : Cond.classLink own ik E ∈ kT) (hi : Cond.initialized E ∈ kT)
    (hg1 : ∀ w ∈ (vx_at0 own ic E names).filter goodWord, w ∈ kT) (hg2 : ∀ w ∈ (vx_at0 own ic E names).filter (fun w => !goodWord w), w ∈ xB E)
    (hgood : ∀ w ∈ Cond.classLink own ik E :: Cond.initialized E :: vx_at0 own ic E names, vx_ot w = true) (hX : XE E A s)
    (hK : va_K D vwCl ty s) (hP : va_P D vwCl ws H) (hD : va_D A ws) (hS : va_S A s.heap H locs) (hsize : ls.size = c.maxLocals)
    (d0 : decode cc pc = .ok (.new ik, 3)) (d3 : decode cc (pc + 3) = .ok (.dup, 1)) (d4 : decode cc (pc + 4) = .ok (.invokespecial ic, 3)) (d7 : decode cc (pc + 7) = .ok (.athrow, 1))
    (htab : ∀ x ∈ c.exceptionTable.toList, False) (hR : names.length + 3 < R.frames ∧ (rest.map fun v => v.category).sum + (13 * (names.length + 1) + 42) ≤ R.locals ∧ cells + 1 ≤ R.cells ∧ slots + 6 ≤ R.slots) (hlocks : meth.locks = false) (hc : cells + 1 ≤ 1 ∧ slots + 6 ≤ 6)
    (hQ : Q = vx_MQ below QF (QX D ty E w1 A) args s 1 6 A) (hw : ws = w1) : W p l e R s m args below meth c H locs cells slots Q (F0 m pc ls rest) := by
  subst hQ; subst hw
  refine vx_throw0 hx hb hst hown hfit.1 hfit.2 (hts _ hk) (hts _ hi) (vx_hat (fun w h => hts w (hg1 w h)) hg2 hX.2.words) hgood hX.1.1 hX.1.2 hS hsize d0 d3 d4 d7 (fun x h => (htab x h).elim) hR.1 hR.2.1 hR.2.2.1 hR.2.2.2 hlocks ?_ hS.2.2 hc.1 hc.2
  intro t hvm hz hq
  refine ⟨rfl, hP.kept (fun k q hk => hq _ (hP k q hk).lt), va_K.moved hvm hK, hD, Nat.le_trans hS.1 hz, fun q h1 h2 => ?_⟩
  rw [hq q (Nat.lt_of_lt_of_le h1 hS.1)]
  exact hS.2.1 q h1 h2
/-- a call that throws -/
theorem kx_call {E : String} {mc ms : Nat} (hr : vx_Run p l e R s m args below meth c H locs cells slots mc ms (F0 m pc ls st0) rest (QF a) (QX D ty E w1 A1) free) (hS : va_S A0 H0 H locs) (hA : ∀ q, q < H.size → A1 q → A0 q) (hf : ∀ q, free q → A0 q)
    (kk : ∀ (H1 : Heap) (locs1 : List Loc) (q9 : Addr) (ce : Cell), va_P D vwCl w1 H1 → va_D A1 w1 → (∀ q : Nat, q < H.size → ¬ A1 q → H1[q]? = H[q]?) → va_S A0 H0 H1 locs1 → H1[q9]? = some ce → ce.vm = .none → s.vm.findClass E = some ce.cls → vx_W p l e R s m args below meth c H1 locs1 (cells + mc) (slots + ms) Q (F0 m pc ls rest) q9) : W p l e R s m args below meth c H locs cells slots Q (F0 m pc ls st0) := by
  intro T hT X
  rcases hr T hT X with ⟨v, st₀, t, T', L, h0, X', hL, e1, e2, hF, st⟩ | ⟨q, st₀, t, T', L, E1, ce, h0, X', hL, e1, e2, ⟨rfl, hp, hk9, hd, hF⟩, hce, hcv, hcl, st⟩
  · exact hF.elim
  · obtain ⟨k1, k2, k3⟩ := vx_keep h0 e1 hS hA hf hL hF
    obtain ⟨t2, a1, b1⟩ := kk T'.heap (locs ++ L) q ce (by rw [e1]; exact hp) hd k2 k3 (by rw [e1]; exact hce) hcv hcl T' rfl X'
    exact ⟨t2, st.trans a1, b1⟩
theorem kx_callV {y : MethodName} {maxL nL n index ci : Nat} {ret : Option FieldType} {rm : Room} {own E : String} {b : Addr} {As : List Value} {fs : List Value} {q : vw_C} (isC isR pm : List Nat)
    (hM : KX l y bytes maxL ret rm D ty (.ref b :: As) w0 E w1) (hf : MF y bytes maxL ret n) (hlk : Cond.methodLink own index y ∈ kT) (hX : XT A s H0) (hcE : XC E s)
    (hx : p.tables.exec = Jvm.exec) (hb : c.code = cc) (hml : c.maxLocals = nL) (hown : s.vm.findClass own = some m.cls) (hts : ∀ w ∈ kT, w.before args s = true)
    (hK : va_K D vwCl ty s) (hP : va_P D vwCl ws H) (hD : va_D A ws) (hS : va_S A H0 H locs) (hA : ∀ q, H0.size ≤ q → A q) (hls : ls.size = nL) (hcs : cells + 1 ≤ R.cells ∧ slots + 6 ≤ R.slots)
    (hdg : decode cc pc = .ok (.invokevirtual index, 3)) (hst : st0 = As.reverse ++ .ref b :: rest) (hn : As.length = n) (hrest : (rest.map fun v => v.category).sum ≤ 8)
    (hR : (rm.cells = 1 ∧ rm.slots = 6) ∧ rm.frames + 1 ≤ R.frames ∧ 8 + (maxL + 11) + rm.locals ≤ R.locals)
    (hC : isC.map (fun i => ws[i]?) = w0.map some) (hRr : isR.map (fun i => ws[i]?) = wr.map some) (hnd : va_nd isC = true ∧ va_nd isR = true ∧ (∀ i ∈ isR, i ∉ isC) ∧ va_nd pm = true)
    (hr0 : w0[0]? = some (b, .inr (ci, fs))) (hci : vwCl[ci]? = some q) (hq : q.1 = y.cls) (hp1 : pm.map (fun i => (wr ++ w1)[i]?) = ws1.map some)
    (kk : ∀ (H1 : Heap) (locs1 : List Loc) (q9 : Addr) (ce : Cell), va_P D vwCl ws1 H1 → va_D A ws1 → va_S A H0 H1 locs1 → H1[q9]? = some ce → ce.vm = .none → s.vm.findClass E = some ce.cls → vx_W p l e R s m args below meth c H1 locs1 (cells + 1) (slots + 6) Q (F0 m pc ls rest) q9) : W p l e R s m args below meth c H locs cells slots Q (F0 m pc ls st0) := by
  obtain ⟨hf1, hf2, hf3, hf4, hf5⟩ := hf
  obtain ⟨hn1, hn2, hn3, hn4⟩ := hnd
  have hPc : va_P D vwCl w0 H := k_getAll hC hP
  have hDc := hD.sub (ws' := w0) isC hn1 hC
  have hFc := va_free (wc := w0) hD hS hA isC hC
  have cb : CallB R s args own index y bytes maxL ret (wM y bytes maxL ret) rm 1 6 n := callB_of (ws' := kT) n hts (k_goodIn hf4) rfl hR.1.1 hR.1.2 (hts _ hf3) (hts _ hlk) hf5 hR.2
  have hrv := va_recv hK hPc hci hr0
  rw [hq] at hrv
  have hXH : XT (va_A w0 H.size) s H := (hX.kept hS.2.1).narrow hFc
  refine kx_call (vx_runV (As := As) (rest := rest) (g := F0 m pc ls st0) ⟨hx, hb, hml, hown, hts⟩ (hM H.size) ⟨cb, hts _ hf1, hts _ hf2⟩ ⟨k_xblind, hrv, fun U hU hW => ⟨rfl, by rw [hU], by rw [hU]; exact hPc, va_K.moved hW.alike hK, hDc.weaken (fun _ _ _ _ => trivial), by rw [hU]; exact XT.moved hW.alike hXH, XC.moved hW.alike hcE⟩⟩ rfl hn hls hst (lv_room hrest) hdg hcs) hS (fun q _ h => hFc q h) hFc (fun H1 locs1 q9 ce hP1 hD1 hk1 hS1 h1 h2 h3 => ?_)
  obtain ⟨hP2, hD2⟩ := va_join (wr := wr) (w1 := w1) hP hD isC isR hC hRr hn2 hn3 hk1 hFc hP1 hD1
  exact kk H1 locs1 q9 ce (k_getAll hp1 hP2) (hD2.sub (ws' := ws1) pm hn4 hp1) hS1 h1 h2 h3
/-- caught by the one row of the method's table -/
theorem kx_catch {own name E : String} {ce : Cell} {q : Addr} {x : ExceptionTableEntry} (hown : s.vm.findClass own = some m.cls) (htab : c.exceptionTable.toList = [x]) (hcv : covers x pc = true) (h0 : x.catchType ≠ 0)
    (hlink : (Cond.classLink own x.catchType name).before args s = true) (hcast : CsT E name s) (hcell : H[q]? = some ce) (hv : ce.vm = .none) (hcl : s.vm.findClass E = some ce.cls)
    (kk : W p l e R s m args below meth c H locs cells slots Q (F0 m x.handlerPc ls [.ref q])) : vx_W p l e R s m args below meth c H locs cells slots Q (F0 m pc ls rest) q := by
  intro T hT X
  have hpl : e.platform.magicAccessors = ({} : Platform).magicAccessors := by rw [X.admits.platform]
  obtain ⟨ca, cb, g1, g2, g3⟩ := hcast
  cases Option.some.inj (g1.symm.trans hcl)
  obtain ⟨c5, hc5, hl5⟩ := Cond.classLink_spec hown hlink e.platform hpl
  cases Option.some.inj (g2.symm.trans hc5)
  obtain ⟨dk, _, _, kt, hd, _, _, _, _, hkt, _, hopen⟩ := hl5.here
  have hal := X.warmed.alike
  obtain ⟨k1, hk1, -⟩ := Vm.findClass_spec hcl
  obtain ⟨k1', hk1', -⟩ := hal.2.2 _ _ hk1
  obtain ⟨k2', hk2', -⟩ := hal.2.2 _ _ hkt
  have hW' : s.WarmedH (T.vm.noted m.cls x.catchType (.cls cb)) := X.warmed.noted hd hopen (State.rightAt_cls hl5)
  have hal2 := hW'.alike
  obtain ⟨j1, hj1, -⟩ := hal2.2.2 _ _ hk1
  obtain ⟨j2, hj2, -⟩ := hal2.2.2 _ _ hkt
  have hfit : (T.vm.noted m.cls x.catchType (.cls cb)).assignable ce.cls cb = true := by rw [hal2.assignable]; exact g3
  obtain ⟨t, a1, b1⟩ := kk (T.setVm (T.vm.noted m.cls x.catchType (.cls cb))) hT (X.noted hW')
  refine ⟨t, ?_, b1⟩
  obtain ⟨S, hSd⟩ : ∃ S, S = (T.setTop (F0 m pc ls rest)).pushFrame (.throwing q) := ⟨_, rfl⟩
  have hSv : S.vm = T.vm := by rw [hSd]; rfl
  have hSh : S.heap[q]? = some ce := by rw [hSd]; show T.heap[q]? = some ce; rw [hT]; exact hcell
  obtain ⟨ha, ht⟩ := (resolveClass_links e.toSetting (by rw [hSv]; exact X.warmed.classLinks hl5 : S.vm.ClassLinks e.platform m.cls x.catchType cb)).op (op := VmOp.resolveClass m.cls x.catchType) rfl
  have hm9 : S.vm.method? m = some meth := by rw [hSv]; exact X.method'
  have hcv2 := hcv
  simp only [covers] at hcv2
  have hst : ∀ k, ce.vm ≠ .statics k := fun k => by rw [hv]; exact fun z => nomatch z
  rw [← hSv] at hj1 hj2 hfit
  have find : ∀ (Qh : Handler → Pre) (E9 : CtlPost) (d : Bool) (acts : List Action), wp (findHandler (F0 m pc ls rest) q) Qh E9 e d acts S ↔ Qh (.found x.handlerPc) d acts (S.setVm (S.vm.noted m.cls x.catchType (.cls cb))) := by
    intro Qh E9 d acts
    rw [W.findHandler_eq (f := F0 m pc ls rest) hm9 X.code, htab]
    simp [findHandler.go, F0, hcv2, h0, ha, ht, hSh, hst, hj1, hj2, hfit, VmOp.dirties, VmOp.acts]
  have step : (stepThrowing e S q (.java (F0 m pc ls rest) :: below)).Is ((S.setVm (S.vm.noted m.cls x.catchType (.cls cb))).setFrames (.java { F0 m pc ls rest with pc := x.handlerPc, stack := [.ref q] } :: below)) [] := by
    simp only [stepThrowing, searchFrame, vmDo]
    generalize hr : Sem.go _ e false [] S = res
    obtain ⟨as, rfl, ha9⟩ := Sem.eq_ok_of hr (a := Handler.found x.handlerPc) (s' := S.setVm (S.vm.noted m.cls x.catchType (.cls cb))) (acts' := []) (by simp [find _ _ _ _])
    exact ⟨rfl, ha9⟩
  obtain ⟨hgo, hw⟩ := (show At T (F0 m pc ls rest).method c below from X.here).throwing q
  refine Steps.head hgo hw ?_
  obtain ⟨g₁, hfr⟩ := X.frames_eq
  have hfe : ((T.setTop (F0 m pc ls rest)).pushFrame (.throwing q)).frames = .throwing q :: .java (F0 m pc ls rest) :: below := by
    rw [frames_entered X.here.top, hfr]; rfl
  rw [stepThread_throwing hfe, ← hSd, step.1]
  have hr' : (T.setVm (T.vm.noted m.cls x.catchType (.cls cb))).frames = .java g₁ :: below := hfr
  rw [State.setTop_of_frames _ hr'] at a1
  have e9 : (S.setVm (S.vm.noted m.cls x.catchType (.cls cb))).setFrames (.java { F0 m pc ls rest with pc := x.handlerPc, stack := [.ref q] } :: below) = (T.setVm (T.vm.noted m.cls x.catchType (.cls cb))).setFrames (.java (F0 m x.handlerPc ls [.ref q]) :: below) := by
    rw [hSv, hSd, State.pushFrame, State.setTop_of_frames _ hfr]
    simp only [State.setFrames_setFrames]
    show ((T.setFrames _).setVm _).setFrames _ = _
    rw [show ∀ (F9 : List Frame) (v9 : Vm), (T.setFrames F9).setVm v9 = (T.setVm v9).setFrames F9 from fun _ _ => rfl, State.setFrames_setFrames]
  rw [e9]
  exact a1
end KXV
end KXS
