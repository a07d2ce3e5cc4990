section KWS
abbrev wMW (y : MethodName) (cc : ByteArray) (n : Nat) (ret : Option FieldType) (hh : List (Nat × Nat × Nat × Nat)) : List Cond := Cond.codeWith y cc n ret hh :: kT
theorem k_goodInW {y : MethodName} {cc : ByteArray} {n : Nat} {ret : Option FieldType} {hh : List (Nat × Nat × Nat × Nat)} (h : Cond.codeWith y cc n ret hh ∈ kT) : GoodIn kT (wMW y cc n ret hh) := by
  intro w hw
  have hm : w ∈ kT := (List.mem_cons.mp hw).elim (fun e => e ▸ h) id
  exact ⟨hm, good_of_word (k_good w hm)⟩
/-- the contract of a method with a table of its own, that returns -/
def KW (l : Launch) (y : MethodName) (cc : ByteArray) (n : Nat) (ret : Option FieldType) (hh : List (Nat × Nat × Nat × Nat)) (rm : Room) (D : va_G) (ty : List (ClassId × FieldType)) (E : String) (av : List Value) (w0 : va_W) (rv : Option Value) (w1 : va_W) (mc ms : Nat) : Prop :=
  ∀ sz : Nat, Met l y (wMW y cc n ret hh) rm (va_Pc av (fun U => U.heap.size = sz ∧ va_P D vwCl w0 U.heap ∧ va_K D vwCl ty U ∧ va_D (fun _ => True) w0 ∧ XE E (va_A w0 sz) U)) (QK D ty rv w1 (va_A w0 sz)) mc ms (va_A w0 sz)
theorem KW.of {l : Launch} {y : MethodName} {cc : ByteArray} {n : Nat} {ret : Option FieldType} {hh : List (Nat × Nat × Nat × Nat)} {rm : Room} {D : va_G} {ty : List (ClassId × FieldType)} {E : String} {av : List Value} {w0 : va_W} {rv : Option Value} {w1 : va_W} {mc ms : Nat} (hy : plainName y.cls = true) (hle : (lg_sl av).length ≤ n)
    (body : ∀ (p : Program) (e : Env) (s : State) (m : MethodId) (below : List Frame) (meth : Method) (c : Code) (A : Nat → Prop) (ls : Array Slot) (args : Array Value) (Q : State → Prop), Q = MQ below (QK D ty rv w1 A) args s mc ms A → Cx p s m meth c args y.cls cc n ret → (∀ q, s.heap.size ≤ q → A q) → va_K D vwCl ty s → va_P D vwCl w0 s.heap → va_D A w0 → lv_has ls n (lv_args 0 av) → c.exceptionTable.toList = tableOf hh → XE E A s →
      W p l e rm s m args below meth c s.heap [] 0 0 Q (F0 m 0 ls [])) : KW l y cc n ret hh rm D ty E av w0 rv w1 mc ms := by
  intro sz
  refine va_MetW (cc := cc) (maxL := n) (ret := ret) (hh := hh) hy rfl ?_
  intro p e s m args below meth c s₁ B hml hv
  obtain ⟨rfl, hsz, hP, hK, hD0, hX⟩ := hv
  subst hsz
  have hts := atoms_spec (ws := wMW y cc n ret hh) B.pre
  have hD := hD0.self (sz := s.heap.size)
  have hl := lv_entry av (n := n) hle
  have htab := vx_table (x := y) B (hts _ List.mem_cons_self)
  rw [lg_entry_eq]
  exact body p e s m below meth c _ _ _ _ rfl ⟨B.exec, B.bytes, B.returns, hml, findClass_of_methodNamed B.named, fun w h => hts w (List.mem_cons_of_mem _ h), B.notSynchronized⟩ (fun q h => Or.inr h) hK hP hD hl htab hX
section KWV
variable {p : Program} {l : Launch} {e : Env} {R : Room} {s : State} {m : MethodId} {args : Array Value} {below : List Frame} {meth : Method} {c : Code} {H : Heap} {locs : List Loc} {cells slots : Nat} {Q : State → Prop}
variable {pc : Nat} {ls : Array Slot} {rest st0 : List Value} {a : Array Value} {A A0 A1 : Nat → Prop} {H0 : Heap} {free : Addr → Prop} {D : va_G} {ty : List (ClassId × FieldType)} {rv : Option Value} {w0 w1 ws wr ws1 : va_W} {cc bytes : ByteArray}
/-- behind a call that makes cells -/
theorem k_callM {mc ms : Nat} (hr : va_Run p l e R s m args below meth c H locs cells slots mc ms (F0 m pc ls st0) rest (QK D ty rv w1 A1 a) free) (hS : va_S A0 H0 H locs) (hA : ∀ q, q < H.size → A1 q → A0 q) (hf : ∀ q, free q → A0 q)
    (kk : ∀ (H1 : Heap) (locs1 : List Loc), va_P D vwCl w1 H1 → va_D A1 w1 → (∀ q : Nat, q < H.size → ¬ A1 q → H1[q]? = H[q]?) → va_S A0 H0 H1 locs1 → W p l e R s m args below meth c H1 locs1 (cells + mc) (slots + ms) Q (F0 m (pc + 3) ls (rv.toList ++ rest))) : W p l e R s m args below meth c H locs cells slots Q (F0 m pc ls st0) := by
  intro T hT X
  obtain ⟨v, st₀, t, T', L, h0, X', hL, e1, e2, ⟨⟨hv, hp, hb, hd⟩, hz, hk⟩, st⟩ := hr T hT X
  cases hv
  rw [h0] at hz hk
  obtain ⟨t2, a1, b1⟩ := kk T'.heap (locs ++ L) (by rw [e1]; exact hp) hd (fun q h1 h2 => by rw [e1]; exact hk q h1 h2)
    ⟨Nat.le_trans hS.1 (by rw [e1]; exact hz), fun q h1 h2 => by rw [e1, hk q (Nat.lt_of_lt_of_le h1 hS.1) (fun z => h2 (hA q (Nat.lt_of_lt_of_le h1 hS.1) z))]; exact hS.2.1 q h1 h2, fun q hq => by
      rcases List.mem_append.mp hq with h | h
      · exact hS.2.2 q h
      · exact hf _ (hL q h)⟩ T' rfl X'
  exact ⟨t2, st t2 a1, b1⟩
/-- a static method with a table: its name by the tables -/
def MSW (y : MethodName) (bytes : ByteArray) (maxL : Nat) (ret : Option FieldType) (hh : List (Nat × Nat × Nat × Nat)) (n : Nat) : Prop :=
  Cond.static y ∈ kT ∧ Cond.initialized y.cls ∈ kT ∧ Cond.codeWith y bytes maxL ret hh ∈ kT ∧ (y.cls ≠ "java/lang/invoke/MethodHandle" ∧ y.cls ≠ "java/lang/invoke/VarHandle" ∧ (parseMethodDescriptor y.desc).map (fun d => d.parameters.length) = some n)
theorem k_callSW {y : MethodName} {maxL nL n index mc ms : Nat} {ret : Option FieldType} {hh : List (Nat × Nat × Nat × Nat)} {rm : Room} {own E : String} {As : List Value} (isC isR pm : List Nat)
    (hM : KW l y bytes maxL ret hh rm D ty E As w0 rv w1 mc ms) (hf : MSW y bytes maxL ret hh n) (hlk : Cond.methodLink own index y ∈ kT) (hX : XT A s H0) (hcE : XC E s)
    (hx : p.tables.exec = Jvm.exec) (hb : c.code = cc) (hml : c.maxLocals = nL) (hown : s.vm.findClass own = some m.cls) (hts : ∀ w ∈ kT, w.before args s = true)
    (hK : va_K D vwCl ty s) (hP : va_P D vwCl ws H) (hD : va_D A ws) (hS : va_S A H0 H locs) (hA : ∀ q, H0.size ≤ q → A q) (hls : ls.size = nL) (hcs : cells + mc ≤ R.cells ∧ slots + ms ≤ R.slots)
    (hdg : decode cc pc = .ok (.invokestatic index, 3)) (hst : st0 = As.reverse ++ rest) (hn : As.length = n) (hrest : (rest.map fun v => v.category).sum ≤ 8)
    (hR : (rm.cells = mc ∧ rm.slots = ms) ∧ rm.frames + 1 ≤ R.frames ∧ 8 + (maxL + 11) + rm.locals ≤ R.locals)
    (hC : isC.map (fun i => ws[i]?) = w0.map some) (hRr : isR.map (fun i => ws[i]?) = wr.map some) (hnd : va_nd isC = true ∧ va_nd isR = true ∧ (∀ i ∈ isR, i ∉ isC) ∧ va_nd pm = true)
    (hp1 : pm.map (fun i => (wr ++ w1)[i]?) = ws1.map some)
    (kk : ∀ (H1 : Heap) (locs1 : List Loc), va_P D vwCl ws1 H1 → va_D A ws1 → va_S A H0 H1 locs1 → W p l e R s m args below meth c H1 locs1 (cells + mc) (slots + ms) Q (F0 m (pc + 3) ls (rv.toList ++ rest))) : W p l e R s m args below meth c H locs cells slots Q (F0 m pc ls st0) := by
  obtain ⟨hf1, hf3, hf4, hf5⟩ := hf
  obtain ⟨hn1, hn2, hn3, hn4⟩ := hnd
  have hPc : va_P D vwCl w0 H := k_getAll hC hP
  have hDc := hD.sub (ws' := w0) isC hn1 hC
  have hFc := va_free (wc := w0) hD hS hA isC hC
  have hXH : XT (va_A w0 H.size) s H := (hX.kept hS.2.1).narrow hFc
  have hG := k_goodInW hf4
  have cw : vx_CSW R s args own index y bytes maxL ret hh (wMW y bytes maxL ret hh) rm mc ms n := ⟨⟨hR.1.1, hR.1.2, hR.2.1, hR.2.2, pay_in hts hG, List.mem_cons_self⟩, hts _ hf4, hts _ hf3, ⟨hf5.1, hf5.2.1⟩, fun sig h => by
    have h2 := hf5.2.2
    rw [h] at h2
    exact (Option.some.inj h2).symm, hts _ hlk, hts _ hf1⟩
  refine k_callM (vx_runSW (As := As) (rest := rest) (g := F0 m pc ls st0) ⟨hx, hb, hml, hown, hts⟩ (hM H.size) cw ⟨k_xblind, fun U hU hW => ⟨rfl, by rw [hU], by rw [hU]; exact hPc, va_K.moved hW.alike hK, hDc.weaken (fun _ _ _ _ => trivial), by rw [hU]; exact XT.moved hW.alike hXH, XC.moved hW.alike hcE⟩⟩ rfl hn hls hst (lv_room hrest) hdg hcs) hS (fun q _ h => hFc q h) hFc (fun H1 locs1 hP1 hD1 hk1 hS1 => ?_)
  obtain ⟨hP2, hD2⟩ := va_join (wr := wr) (w1 := w1) hP hD isC isR hC hRr hn2 hn3 hk1 hFc hP1 hD1
  exact kk H1 locs1 (k_getAll hp1 hP2) (hD2.sub (ws' := ws1) pm hn4 hp1) hS1
end KWV
end KWS
