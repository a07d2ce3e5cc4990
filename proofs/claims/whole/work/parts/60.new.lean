section KNEW
/-- the end of a constructor: new cells at the addresses ad -/
def QN (D : va_G) (ty : List (ClassId × FieldType)) (w1 : (Nat → Nat) → va_W) (A : Nat → Prop) : Array Value → State → Outcome → State → Prop := fun _ st oc t =>
  (oc = .returned none ∧ ∃ ad : Nat → Nat, va_P D vwCl (w1 ad) t.heap ∧ va_K D vwCl ty t ∧ va_D A (w1 ad)) ∧ va_F A st t
/-- what is asked of the tables beyond the good words: it stays in a callee -/
def XOk (X : State → Prop) : Prop := (∀ (a : Array Value) (U : State) (g : JFrame) (mk : MethodId), X U → X (U.calling g mk a)) ∧ ∀ (s U : State), s.WarmedH U.vm → X s → X U
theorem XOk.t : XOk (fun _ => True) := ⟨fun _ _ _ _ h => h, fun _ _ _ _ => trivial⟩
theorem XOk.and {X Y : State → Prop} (hX : XOk X) (hY : XOk Y) : XOk (fun U => X U ∧ Y U) := ⟨fun a U g mk h => ⟨hX.1 a U g mk h.1, hY.1 a U g mk h.2⟩, fun s U hW h => ⟨hX.2 s U hW h.1, hY.2 s U hW h.2⟩⟩
theorem XOk.nest {a : String} {i : Nat} {x : MethodName} {h : String} : XOk (va_Nw (.methodLinkNest a i x h)) := ⟨fun ar U g mk z => va_Nw.same rfl (u := U) rfl z, fun s U hW z => va_Nw.warmM hW z⟩
def KN (l : Launch) (y : MethodName) (cc : ByteArray) (n : Nat) (rm : Room) (D : va_G) (ty : List (ClassId × FieldType)) (X : State → Prop) (av : List Value) (w0 : va_W) (w1 : (Nat → Nat) → va_W) (mc ms : Nat) : Prop :=
  ∀ sz : Nat, Met l y (wM y cc n none) rm (va_Pc av (fun U => U.heap.size = sz ∧ va_P D vwCl w0 U.heap ∧ va_K D vwCl ty U ∧ va_D (fun _ => True) w0 ∧ X U)) (QN D ty w1 (va_A w0 sz)) mc ms (va_A w0 sz)
theorem KN.of {l : Launch} {y : MethodName} {cc : ByteArray} {n : Nat} {rm : Room} {D : va_G} {ty : List (ClassId × FieldType)} {X : State → Prop} {av : List Value} {w0 : va_W} {w1 : (Nat → Nat) → va_W} {mc ms : Nat} (hy : plainName y.cls = true) (hle : (lg_sl av).length ≤ n)
    (body : ∀ (p : Program) (e : Env) (s : State) (m : MethodId) (below : List Frame) (meth : Method) (c : Code) (A : Nat → Prop) (ls : Array Slot) (args : Array Value) (Q : State → Prop), Q = MQ below (QN D ty w1 A) args s mc ms A → Cx p s m meth c args y.cls cc n none → (∀ q, s.heap.size ≤ q → A q) → va_K D vwCl ty s → va_P D vwCl w0 s.heap → va_D A w0 → lv_has ls n (lv_args 0 av) → X s → meth.name = y.name →
      W p l e rm s m args below meth c s.heap [] 0 0 Q (F0 m 0 ls [])) : KN l y cc n rm D ty X av w0 w1 mc ms := by
  intro sz
  refine Met.ofW (cc := cc) (maxL := n) (ret := none) hy rfl ?_
  intro p e s m args below meth c s₁ B hml hv
  obtain ⟨rfl, hsz, hP, hK, hD0, hX⟩ := hv
  subst hsz
  have hts := atoms_spec (ws := wM y cc n none) B.pre
  have hD := hD0.self (sz := s.heap.size)
  have hl := lv_entry av (n := n) hle
  rw [lg_entry_eq]
  exact body p e s m below meth c _ _ _ _ rfl ⟨B.exec, B.bytes, B.returns, hml, findClass_of_methodNamed B.named, fun w h => hts w (List.mem_cons_of_mem _ h), B.notSynchronized⟩ (fun q h => Or.inr h) hK hP hD hl hX (name_of_methodNamed B.named B.method).1
section KNV
variable {p : Program} {l : Launch} {e : Env} {R : Room} {s : State} {m : MethodId} {args : Array Value} {below : List Frame} {meth : Method} {c : Code} {H : Heap} {locs : List Loc} {cells slots : Nat} {Q : State → Prop}
variable {pc : Nat} {ls : Array Slot} {rest st0 : List Value} {a : Array Value} {A A0 A1 : Nat → Prop} {H0 : Heap} {free : Addr → Prop} {D : va_G} {ty : List (ClassId × FieldType)} {w0 ws wr : va_W} {cc bytes : ByteArray} {w1 ws1 : (Nat → Nat) → va_W}
theorem k_nret (ad : Nat → Nat) (hx : p.tables.exec = Jvm.exec) (hb : c.code = cc) (hr : meth.sig.returnType = none) (hlocks : meth.locks = false) (hK : va_K D vwCl ty s) (hP : va_P D vwCl ws H) (hD : va_D A ws) (hS : va_S A s.heap H locs) (hd : decode cc pc = .ok (.return_, 1)) (hQ : Q = MQ below (QN D ty w1 A) args s cells slots A) (hw : ws = w1 ad) : W p l e R s m args below meth c H locs cells slots Q (F0 m pc ls []) := by
  subst hQ
  rw [hw] at hP hD
  exact W.vret hx hb hr (fun t ht hW => ⟨⟨rfl, ad, by rw [ht]; exact hP, va_K.moved hW.alike hK, hD⟩, hS.F ht⟩) hS.2.2 hd hlocks
/-- a new row of numbers -/
theorem k_newa (hx : p.tables.exec = Jvm.exec) (hb : c.code = cc) {atype : ArrayType} (harr : (Cond.arrayClass (newarray.typeOf atype)).before args s = true) (t0 : Nat) {cA : ClassId} {ty1 : FieldType} (hty : newarray.typeOf atype = ty1) (hra : ∀ cX : ClassId, va_RA s cX ty1 → s.vm.findClass ("[" ++ ty1.toString) = some cX) (ht : ty[t0]? = some (cA, ty1)) (hK : va_K D vwCl ty s) (hP : va_P D vwCl ws H) (hD : va_D A ws) (hS : va_S A H0 H locs) (hA : ∀ q, H0.size ≤ q → A q) {n : Int32} {N' : Nat} (hd0 : defaultValue ty1 = .int 0) (hn : ¬ n < 0) (hN : n.toNatClampNeg = N') (hbytes : N' * componentBytes ty1 ≤ 536870912) (hcells : cells + 1 ≤ R.cells) (hslots : slots + N' ≤ R.slots) (hdg : decode cc pc = .ok (.newarray atype, 2))
    (kk : ∀ (q : Nat) (H1 : Heap), va_P D vwCl (ws ++ [(q, .inl (cA, N', .inl (fun _ => 0)))]) H1 → va_D A (ws ++ [(q, .inl (cA, N', .inl (fun _ => 0)))]) → va_S A H0 H1 locs → W p l e R s m args below meth c H1 locs (cells + 1) (slots + N') Q (F0 m (pc + 2) ls (.ref q :: rest))) : W p l e R s m args below meth c H locs cells slots Q (F0 m pc ls (.int n :: rest)) := by
  have ha : ∀ cX : ClassId, vp_cell cX (N', .inl (fun _ => 0)) = arrV cX N' (fun _ => defaultValue ty1) := fun cX => by rw [hd0, vp_cell_i]
  refine va_newa hx hb harr hty hK hP hD hS hA ha hn hN hbytes hcells hslots hdg (fun q cX H1 hK1 hP1 hD1 hS1 => ?_)
  have h1 := (hK1.2 ty.length (cX, ty1) (by simp)).2
  have h2 := (hK.2 t0 _ ht).2
  have e1 := hra _ h1
  rw [hra _ h2] at e1
  cases e1
  exact kk q H1 hP1 hD1 hS1
theorem k_ncall {mc ms : Nat} (hr : va_Run p l e R s m args below meth c H locs cells slots mc ms (F0 m pc ls st0) rest (QN D ty w1 A1 a) free) (hS : va_S A0 H0 H locs) (hA : ∀ q, q < H.size → A1 q → A0 q) (hf : ∀ q, free q → A0 q)
    (kk : ∀ (ad : Nat → Nat) (H1 : Heap) (locs1 : List Loc), va_P D vwCl (w1 ad) H1 → va_D A1 (w1 ad) → (∀ q : Nat, q < H.size → ¬ A1 q → H1[q]? = H[q]?) → va_S A0 H0 H1 locs1 → W p l e R s m args below meth c H1 locs1 (cells + mc) (slots + ms) Q (F0 m (pc + 3) ls rest)) : W p l e R s m args below meth c H locs cells slots Q (F0 m pc ls st0) := by
  intro T hT X
  obtain ⟨v, st₀, t, T', L, h0, X', hL, e1, e2, ⟨⟨hv, ad, hp, hb, hd⟩, hz, hk⟩, st⟩ := hr T hT X
  cases hv
  rw [h0] at hz hk
  obtain ⟨t2, a1, b1⟩ := kk ad T'.heap (locs ++ L) (by rw [e1]; exact hp) hd (fun q h1 h2 => by rw [e1]; exact hk q h1 h2)
    ⟨Nat.le_trans hS.1 (by rw [e1]; exact hz), fun q h1 h2 => by rw [e1, hk q (Nat.lt_of_lt_of_le h1 hS.1) (fun z => h2 (hA q (Nat.lt_of_lt_of_le h1 hS.1) z))]; exact hS.2.1 q h1 h2, fun q hq => by
      rcases List.mem_append.mp hq with h | h
      · exact hS.2.2 q h
      · exact hf _ (hL q h)⟩ T' rfl X'
  exact ⟨t2, st t2 a1, b1⟩
theorem k_nblind {w0 : va_W} {av : List Value} {sz : Nat} {X : State → Prop} (hX : XOk X) : FrameBlind (va_Pc av (fun U => U.heap.size = sz ∧ va_P D vwCl w0 U.heap ∧ va_K D vwCl ty U ∧ va_D (fun _ => True) w0 ∧ X U)) := by
  intro a U g mk q
  obtain ⟨q0, q1, qP, qK, qD, qX⟩ := q
  exact ⟨q0, q1, qP, va_K.moved (u := U) (U := U.calling g mk a) (Vm.Alike.refl U.vm) qK, qD, hX.1 a U g mk qX⟩
/-- what a constructor's name is, by the tables -/
def MN (y : MethodName) (bytes : ByteArray) (maxL : Nat) (n : Nat) : Prop :=
  Cond.instanceMethod y ∈ kT ∧ Cond.initialized y.cls ∈ kT ∧ Cond.code y bytes maxL none ∈ kT ∧ (y.cls ≠ "java/lang/invoke/MethodHandle" ∧ y.cls ≠ "java/lang/invoke/VarHandle" ∧ (parseMethodDescriptor y.desc).map (fun d => d.parameters.length) = some n) ∧ y.name = "<init>"
theorem k_getAll {isC : List Nat} {ws w0 : va_W} (hC : isC.map (fun i => ws[i]?) = w0.map some) (hP : va_P D vwCl ws H) : va_P D vwCl w0 H := fun k z hz => by
  have h1 : (isC.map (fun i => ws[i]?))[k]? = (w0.map some)[k]? := by rw [hC]
  simp only [List.getElem?_map, hz, Option.map_some] at h1
  obtain ⟨i, hi, he⟩ := Option.map_eq_some_iff.mp h1
  exact hP i z he
/-- a constructor is called: by its own link, or by a nest mate's -/
theorem k_callI {y : MethodName} {maxL nL n index mc ms : Nat} {rm : Room} {X : State → Prop} {own : String} {b : Addr} {As : List Value} (host : Option String) (isC isR pm : List Nat)
    (hM : KN l y bytes maxL rm D ty X (.ref b :: As) w0 w1 mc ms) (hf : MN y bytes maxL n) (hX : XOk X) (hXs : X s)
    (hlk : match host with | none => (Cond.methodLink own index y).before args s = true | some h => va_Nw (.methodLinkNest own index y h) s)
    (hx : p.tables.exec = Jvm.exec) (hb : c.code = cc) (hml : c.maxLocals = nL) (hown : s.vm.findClass own = some m.cls) (hts : ∀ w ∈ kT, w.before args s = true)
    (hK : va_K D vwCl ty s) (hP : va_P D vwCl ws H) (hD : va_D A ws) (hS : va_S A H0 H locs) (hA : ∀ q, H0.size ≤ q → A q) (hls : ls.size = nL) (hcs : cells + mc ≤ R.cells ∧ slots + ms ≤ R.slots)
    (hdg : decode cc pc = .ok (.invokespecial index, 3)) (hst : st0 = As.reverse ++ .ref b :: rest) (hn : As.length = n) (hrest : (rest.map fun v => v.category).sum ≤ 8)
    (hR : (rm.cells = mc ∧ rm.slots = ms) ∧ rm.frames + 1 ≤ R.frames ∧ 8 + (maxL + 11) + rm.locals ≤ R.locals)
    (hC : isC.map (fun i => ws[i]?) = w0.map some) (hRr : isR.map (fun i => ws[i]?) = wr.map some) (hnd : va_nd isC = true ∧ va_nd isR = true ∧ (∀ i ∈ isR, i ∉ isC) ∧ va_nd pm = true)
    (hp1 : ∀ ad, pm.map (fun i => (wr ++ w1 ad)[i]?) = (ws1 ad).map some)
    (kk : ∀ (ad : Nat → Nat) (H1 : Heap) (locs1 : List Loc), va_P D vwCl (ws1 ad) H1 → va_D A (ws1 ad) → va_S A H0 H1 locs1 → W p l e R s m args below meth c H1 locs1 (cells + mc) (slots + ms) Q (F0 m (pc + 3) ls rest)) : W p l e R s m args below meth c H locs cells slots Q (F0 m pc ls st0) := by
  obtain ⟨hf1, hf3, hf4, hf5, hf6⟩ := hf
  obtain ⟨hn1, hn2, hn3, hn4⟩ := hnd
  have hPc : va_P D vwCl w0 H := k_getAll hC hP
  have hDc := hD.sub (ws' := w0) isC hn1 hC
  have hFc := va_free (wc := w0) hD hS hA isC hC
  have hrun : va_Run p l e R s m args below meth c H locs cells slots mc ms (F0 m pc ls st0) rest (QN D ty w1 (va_A w0 H.size) (Value.ref b :: As).toArray) (va_A w0 H.size) := by
    match host, hlk with
    | none, hlk => exact va_runI (As := As) (rest := rest) (g := F0 m pc ls st0) ⟨hx, hb, hml, hown, hts⟩ (hM H.size) ⟨callB_of (ws' := kT) n hts (k_goodIn hf4) rfl hR.1.1 hR.1.2 (hts _ hf3) hlk hf5 hR.2, hf6, hts _ hf1⟩ ⟨k_nblind hX, fun U hU hW => ⟨rfl, by rw [hU], by rw [hU]; exact hPc, va_K.moved hW.alike hK, hDc.weaken (fun _ _ _ _ => trivial), hX.2 s U hW hXs⟩⟩ rfl hn hls hst (lv_room hrest) hdg hcs
    | some h, hlk => exact va_runIN (As := As) (rest := rest) (g := F0 m pc ls st0) ⟨hx, hb, hml, hown, hts⟩ (hM H.size) ⟨va_cnB (ws' := kT) n hts (k_goodIn hf4) rfl hR.1.1 hR.1.2 hlk (hts _ hf3) hf5 hR.2, hf6, hts _ hf1⟩ ⟨k_nblind hX, fun U hU hW => ⟨rfl, by rw [hU], by rw [hU]; exact hPc, va_K.moved hW.alike hK, hDc.weaken (fun _ _ _ _ => trivial), hX.2 s U hW hXs⟩⟩ rfl hn hls hst (lv_room hrest) hdg hcs
  refine k_ncall hrun hS (fun q _ h => hFc q h) hFc (fun ad H1 locs1 hP1 hD1 hk1 hS1 => ?_)
  obtain ⟨hP2, hD2⟩ := va_join (wr := wr) (w1 := w1 ad) hP hD isC isR hC hRr hn2 hn3 hk1 hFc hP1 hD1
  exact kk ad H1 locs1 (k_getAll (hp1 ad) hP2) (hD2.sub (ws' := ws1 ad) pm hn4 (hp1 ad)) hS1
end KNV
end KNEW
