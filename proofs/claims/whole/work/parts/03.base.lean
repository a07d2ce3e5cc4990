section KBASE
/-- the tables' words that stay good in a callee -/
def kT : List Cond := lw_tbl.filter goodWord
theorem k_good : ∀ w ∈ kT, goodWord w = true := fun w hw => (List.mem_filter.mp hw).2
theorem k_in {w : Cond} (i : Nat) (h : lw_tbl[i]? = some w ∧ goodWord w = true) : w ∈ kT := List.mem_filter.mpr ⟨List.mem_of_getElem? h.1, h.2⟩
/-- a method's words: its code, and the tables -/
abbrev wM (y : MethodName) (cc : ByteArray) (n : Nat) (ret : Option FieldType) : List Cond := Cond.code y cc n ret :: kT
theorem k_goodIn {y : MethodName} {cc : ByteArray} {n : Nat} {ret : Option FieldType} (h : Cond.code y cc n ret ∈ kT) : GoodIn kT (wM y cc n ret) := by
  intro w hw
  have hm : w ∈ kT := (List.mem_cons.mp hw).elim (fun e => e ▸ h) id
  exact ⟨hm, good_of_word (k_good w hm)⟩
/-- what is known at a method's entry -/
def Cx (p : Program) (s : State) (m : MethodId) (meth : Method) (c : Code) (args : Array Value) (own : String) (cc : ByteArray) (n : Nat) (ret : Option FieldType) : Prop :=
  p.tables.exec = Jvm.exec ∧ c.code = cc ∧ meth.sig.returnType = ret ∧ c.maxLocals = n ∧ s.vm.findClass own = some m.cls ∧ (∀ w ∈ kT, w.before args s = true) ∧ meth.locks = false
/-- the end of a method whose answer and cells are known -/
def QK (D : va_G) (ty : List (ClassId × FieldType)) (rv : Option Value) (w1 : va_W) (A : Nat → Prop) : Array Value → State → Outcome → State → Prop := fun _ st oc t =>
  (oc = .returned rv ∧ va_P D vwCl w1 t.heap ∧ va_K D vwCl ty t ∧ va_D A w1) ∧ va_F A st t
/-- the contract: with these arguments and cells the method answers rv, and the cells are w1 then; mc cells of ms slots come -/
def KC (l : Launch) (y : MethodName) (cc : ByteArray) (n : Nat) (ret : Option FieldType) (rm : Room) (D : va_G) (ty : List (ClassId × FieldType)) (av : List Value) (w0 : va_W) (rv : Option Value) (w1 : va_W) : Prop :=
  ∀ sz : Nat, Met l y (wM y cc n ret) rm (va_Pc av (fun U => U.heap.size = sz ∧ va_P D vwCl w0 U.heap ∧ va_K D vwCl ty U ∧ va_D (fun _ => True) w0)) (QK D ty rv w1 (va_A w0 sz)) 0 0 (va_A w0 sz)
theorem KC.of {l : Launch} {y : MethodName} {cc : ByteArray} {n : Nat} {ret : Option FieldType} {rm : Room} {D : va_G} {ty : List (ClassId × FieldType)} {av : List Value} {w0 : va_W} {rv : Option Value} {w1 : va_W} (hy : plainName y.cls = true) (hle : (lg_sl av).length ≤ n)
    (body : ∀ (p : Program) (e : Env) (s : State) (m : MethodId) (below : List Frame) (meth : Method) (c : Code) (A : Nat → Prop) (ls : Array Slot) (args : Array Value) (Q : State → Prop), Q = MQ below (QK D ty rv w1 A) args s 0 0 A → Cx p s m meth c args y.cls cc n ret → (∀ q, s.heap.size ≤ q → A q) → va_K D vwCl ty s → va_P D vwCl w0 s.heap → va_D A w0 → lv_has ls n (lv_args 0 av) →
      W p l e rm s m args below meth c s.heap [] 0 0 Q (F0 m 0 ls [])) : KC l y cc n ret rm D ty av w0 rv w1 := by
  intro sz
  refine Met.ofW (cc := cc) (maxL := n) (ret := ret) hy rfl ?_
  intro p e s m args below meth c s₁ B hml hv
  obtain ⟨rfl, hsz, hP, hK, hD0⟩ := hv
  subst hsz
  have hts := atoms_spec (ws := wM y cc n ret) B.pre
  have hD := hD0.self (sz := s.heap.size)
  have hl := lv_entry av (n := n) hle
  rw [lg_entry_eq]
  exact body p e s m below meth c _ _ _ _ rfl ⟨B.exec, B.bytes, B.returns, hml, findClass_of_methodNamed B.named, fun w h => hts w (List.mem_cons_of_mem _ h), B.notSynchronized⟩ (fun q h => Or.inr h) hK hP hD hl
/-- what a callee's name is: by the tables -/
def MF (y : MethodName) (bytes : ByteArray) (maxL : Nat) (ret : Option FieldType) (n : Nat) : Prop :=
  Cond.instanceMethod y ∈ kT ∧ Cond.selects y.cls y y ∈ kT ∧ Cond.initialized y.cls ∈ kT ∧ Cond.code y bytes maxL ret ∈ kT ∧ (y.cls ≠ "java/lang/invoke/MethodHandle" ∧ y.cls ≠ "java/lang/invoke/VarHandle" ∧ (parseMethodDescriptor y.desc).map (fun d => d.parameters.length) = some n)
def MS (y : MethodName) (bytes : ByteArray) (maxL : Nat) (ret : Option FieldType) (n : Nat) : Prop :=
  Cond.static y ∈ kT ∧ Cond.initialized y.cls ∈ kT ∧ Cond.code y bytes maxL ret ∈ kT ∧ (y.cls ≠ "java/lang/invoke/MethodHandle" ∧ y.cls ≠ "java/lang/invoke/VarHandle" ∧ (parseMethodDescriptor y.desc).map (fun d => d.parameters.length) = some n)
section KV
variable {p : Program} {l : Launch} {e : Env} {R : Room} {s : State} {m : MethodId} {args : Array Value} {below : List Frame} {meth : Method} {c : Code} {H : Heap} {locs : List Loc} {cells slots : Nat} {Q : State → Prop}
variable {pc : Nat} {ls : Array Slot} {rest st0 : List Value} {a : Array Value} {A A0 A1 : Nat → Prop} {H0 : Heap} {free : Addr → Prop} {D : va_G} {ty : List (ClassId × FieldType)} {rv : Option Value} {w0 w1 ws wr ws1 : va_W} {cc bytes : ByteArray}
/-- an int, a truth, nothing, a cell is answered -/
theorem k_iret {v : Int32} (hx : p.tables.exec = Jvm.exec) (hb : c.code = cc) (hr : meth.sig.returnType = some .int) (hlocks : meth.locks = false) (hK : va_K D vwCl ty s) (hP : va_P D vwCl ws H) (hD : va_D A ws) (hS : va_S A s.heap H locs) (hd : decode cc pc = .ok (.ireturn, 1)) (hQ : Q = MQ below (QK D ty rv w1 A) args s cells slots A) (hv : some (Value.int v) = rv) (hw : ws = w1) : W p l e R s m args below meth c H locs cells slots Q (F0 m pc ls [.int v]) := by
  subst hv; subst hw; subst hQ
  exact W.iret hx hb hr (fun t ht hW => ⟨⟨rfl, by rw [ht]; exact hP, va_K.moved hW.alike hK, hD⟩, hS.F ht⟩) hS.2.2 hd hlocks
theorem k_zret {v : Int32} (hn : narrow .boolean (.int v) = .int v) (hx : p.tables.exec = Jvm.exec) (hb : c.code = cc) (hr : meth.sig.returnType = some .boolean) (hlocks : meth.locks = false) (hK : va_K D vwCl ty s) (hP : va_P D vwCl ws H) (hD : va_D A ws) (hS : va_S A s.heap H locs) (hd : decode cc pc = .ok (.ireturn, 1)) (hQ : Q = MQ below (QK D ty rv w1 A) args s cells slots A) (hv : some (Value.int v) = rv) (hw : ws = w1) : W p l e R s m args below meth c H locs cells slots Q (F0 m pc ls [.int v]) := by
  subst hv; subst hw; subst hQ
  exact W.zret hx hb hr hn (fun t ht hW => ⟨⟨rfl, by rw [ht]; exact hP, va_K.moved hW.alike hK, hD⟩, hS.F ht⟩) hS.2.2 hd hlocks
theorem k_vret (hx : p.tables.exec = Jvm.exec) (hb : c.code = cc) (hr : meth.sig.returnType = none) (hlocks : meth.locks = false) (hK : va_K D vwCl ty s) (hP : va_P D vwCl ws H) (hD : va_D A ws) (hS : va_S A s.heap H locs) (hd : decode cc pc = .ok (.return_, 1)) (hQ : Q = MQ below (QK D ty rv w1 A) args s cells slots A) (hv : none = rv) (hw : ws = w1) : W p l e R s m args below meth c H locs cells slots Q (F0 m pc ls []) := by
  subst hv; subst hw; subst hQ
  exact W.vret hx hb hr (fun t ht hW => ⟨⟨rfl, by rw [ht]; exact hP, va_K.moved hW.alike hK, hD⟩, hS.F ht⟩) hS.2.2 hd hlocks
theorem k_aret {v : Nat} {rt : String} (hx : p.tables.exec = Jvm.exec) (hb : c.code = cc) (hr : meth.sig.returnType = some (.object rt)) (hlocks : meth.locks = false) (hK : va_K D vwCl ty s) (hP : va_P D vwCl ws H) (hD : va_D A ws) (hS : va_S A s.heap H locs) (hd : decode cc pc = .ok (.areturn, 1)) (hQ : Q = MQ below (QK D ty rv w1 A) args s cells slots A) (hv : some (Value.ref v) = rv) (hw : ws = w1) : W p l e R s m args below meth c H locs cells slots Q (F0 m pc ls [.ref v]) := by
  subst hv; subst hw; subst hQ
  exact W.aret hx hb hr (Or.inl ⟨_, rfl⟩) (Or.inr ⟨_, rfl⟩) (fun t ht hW => ⟨⟨rfl, by rw [ht]; exact hP, va_K.moved hW.alike hK, hD⟩, hS.F ht⟩) hS.2.2 hd hlocks
/-- a store into a row, its new contents with a name -/
theorem k_iast (hx : p.tables.exec = Jvm.exec) (hb : c.code = cc) (hK : va_K D vwCl ty s) (hP : va_P D vwCl ws H) (hD : va_D A ws) (hS : va_S A H0 H locs) (q0 t0 : Nat) {cA : ClassId} {n b : Nat} {f : Nat → Int32} (ha : ws[q0]? = some (b, .inl (cA, n, .inl f))) (ht : ty[t0]? = some (cA, .int)) {i : Int32} {x : Int32} (hin : vp_in i n) (hdg : decode cc pc = .ok (.iastore, 1))
    (kk : ∀ (g : Nat → Int32), g = upd f i.toNatClampNeg x → ∀ (H1 : Heap) (locs1 : List Loc), va_P D vwCl (ws.set q0 (b, .inl (cA, n, .inl g))) H1 → va_D A (ws.set q0 (b, .inl (cA, n, .inl g))) → va_S A H0 H1 locs1 → W p l e R s m args below meth c H1 locs1 cells slots Q (F0 m (pc + 1) ls rest)) : W p l e R s m args below meth c H locs cells slots Q (F0 m pc ls (.int x :: .int i :: .ref b :: rest)) :=
  va_iast hx hb hK hP hD hS q0 t0 ha ht hin hdg (fun H1 l1 h1 h2 h3 => kk _ rfl H1 l1 h1 h2 h3)
theorem k_bast (hx : p.tables.exec = Jvm.exec) (hb : c.code = cc) (hK : va_K D vwCl ty s) (hP : va_P D vwCl ws H) (hD : va_D A ws) (hS : va_S A H0 H locs) (q0 t0 : Nat) {cA : ClassId} {n b : Nat} {f : Nat → Int32} (ha : ws[q0]? = some (b, .inl (cA, n, .inl f))) (ht : ty[t0]? = some (cA, .byte)) {i : Int32} {x : Int32} (hin : vp_in i n) (hdg : decode cc pc = .ok (.bastore, 1))
    (kk : ∀ (g : Nat → Int32), g = upd f i.toNatClampNeg (vp_nar .byte x) → ∀ (H1 : Heap) (locs1 : List Loc), va_P D vwCl (ws.set q0 (b, .inl (cA, n, .inl g))) H1 → va_D A (ws.set q0 (b, .inl (cA, n, .inl g))) → va_S A H0 H1 locs1 → W p l e R s m args below meth c H1 locs1 cells slots Q (F0 m (pc + 1) ls rest)) : W p l e R s m args below meth c H locs cells slots Q (F0 m pc ls (.int x :: .int i :: .ref b :: rest)) :=
  va_bast hx hb hK hP hD hS q0 t0 ha ht hin hdg (fun H1 l1 h1 h2 h3 => kk _ rfl H1 l1 h1 h2 h3)
theorem k_zast (hx : p.tables.exec = Jvm.exec) (hb : c.code = cc) (hK : va_K D vwCl ty s) (hP : va_P D vwCl ws H) (hD : va_D A ws) (hS : va_S A H0 H locs) (q0 t0 : Nat) {cA : ClassId} {n b : Nat} {f : Nat → Int32} (ha : ws[q0]? = some (b, .inl (cA, n, .inl f))) (ht : ty[t0]? = some (cA, .boolean)) {i : Int32} {x : Int32} (hin : vp_in i n) (hdg : decode cc pc = .ok (.bastore, 1))
    (kk : ∀ (g : Nat → Int32), g = upd f i.toNatClampNeg (vp_nar .boolean x) → ∀ (H1 : Heap) (locs1 : List Loc), va_P D vwCl (ws.set q0 (b, .inl (cA, n, .inl g))) H1 → va_D A (ws.set q0 (b, .inl (cA, n, .inl g))) → va_S A H0 H1 locs1 → W p l e R s m args below meth c H1 locs1 cells slots Q (F0 m (pc + 1) ls rest)) : W p l e R s m args below meth c H locs cells slots Q (F0 m pc ls (.int x :: .int i :: .ref b :: rest)) :=
  va_zast hx hb hK hP hD hS q0 t0 ha ht hin hdg (fun H1 l1 h1 h2 h3 => kk _ rfl H1 l1 h1 h2 h3)
/-- a switch by a table: one case, and none -/
theorem k_tIn (hx : p.tables.exec = Jvm.exec) (hb : c.code = cc) {dflt lo hi : Int} {offs : Array Int} {len : Nat} {x : Int32} (v : Int32) (hv : x = v) {off : Int} {tgt : Nat} (hdg : decode cc pc = .ok (.tableswitch dflt lo hi offs, len)) (h1 : ¬ v.toInt < lo ∧ ¬ hi < v.toInt) (ho : offs[(v.toInt - lo).toNat]? = some off) (ht : (pc : Int) + off = (tgt : Int)) (k : W p l e R s m args below meth c H locs cells slots Q (F0 m tgt ls rest)) : W p l e R s m args below meth c H locs cells slots Q (F0 m pc ls (.int x :: rest)) := by
  subst hv; exact lv_tableIn hx hb hdg h1.1 h1.2 ho ht k
theorem k_tOut (hx : p.tables.exec = Jvm.exec) (hb : c.code = cc) {dflt lo hi : Int} {offs : Array Int} {len : Nat} {x : Int32} {tgt : Nat} (hdg : decode cc pc = .ok (.tableswitch dflt lo hi offs, len)) (h : ∀ k : Int, lo ≤ k → k ≤ hi → ¬ x = Int32.ofInt k) (ht : (pc : Int) + dflt = (tgt : Int)) (k : W p l e R s m args below meth c H locs cells slots Q (F0 m tgt ls rest)) : W p l e R s m args below meth c H locs cells slots Q (F0 m pc ls (.int x :: rest)) := by
  refine lv_tableOut hx hb hdg ?_ ht k
  rcases Int.lt_or_le x.toInt lo with h1 | h1
  · exact Or.inl h1
  · rcases Int.lt_or_le hi x.toInt with h2 | h2
    · exact Or.inr h2
    · exact absurd (Int32.ofInt_toInt x).symm (h _ h1 h2)
theorem k_lkIn (hx : p.tables.exec = Jvm.exec) (hb : c.code = cc) {dflt : Int} {ps : Array (Int × Int)} {len : Nat} {x : Int32} (v : Int32) (hv : x = v) {off : Int} {tgt : Nat} (hdg : decode cc pc = .ok (.lookupswitch dflt ps, len)) (hp : (ps.toList.zip (ps.toList.drop 1)).all (fun (a, next) => a.1 < next.1) = true) (ho : Op.lookupswitch.offset ps.toList dflt v.toInt = off) (ht : (pc : Int) + off = (tgt : Int)) (k : W p l e R s m args below meth c H locs cells slots Q (F0 m tgt ls rest)) : W p l e R s m args below meth c H locs cells slots Q (F0 m pc ls (.int x :: rest)) := by
  subst hv; exact lv_lookup hx hb hdg hp ho ht k
theorem k_toInt {x : Int32} {k : Int} (v : Int32) (hv : v.toInt = k) (h : ¬ x = v) : ¬ x.toInt = k := fun h2 => h (Int32.toInt_inj.mp (h2.trans hv.symm))
/-- behind a call that makes no cell -/
theorem k_call (hr : va_Run p l e R s m args below meth c H locs cells slots 0 0 (F0 m pc ls st0) rest (QK D ty rv w1 A1 a) free) (hS : va_S A0 H0 H locs) (hA : ∀ q, q < H.size → A1 q → A0 q) (hf : ∀ q, free q → A0 q)
    (kk : ∀ (H1 : Heap) (locs1 : List Loc), va_P D vwCl w1 H1 → va_D A1 w1 → (∀ q : Nat, q < H.size → ¬ A1 q → H1[q]? = H[q]?) → va_S A0 H0 H1 locs1 → W p l e R s m args below meth c H1 locs1 cells slots Q (F0 m (pc + 3) ls (rv.toList ++ rest))) : W p l e R s m args below meth c H locs cells slots Q (F0 m pc ls st0) := by
  intro T hT X
  obtain ⟨v, st₀, t, T', L, h0, X', hL, e1, e2, ⟨⟨hv, hp, hb, hd⟩, hz, hk⟩, st⟩ := hr T hT X
  cases hv
  rw [h0] at hz hk
  obtain ⟨t2, a1, b1⟩ := kk T'.heap (locs ++ L) (by rw [e1]; exact hp) hd (fun q h1 h2 => by rw [e1]; exact hk q h1 h2)
    ⟨Nat.le_trans hS.1 (by rw [e1]; exact hz), fun q h1 h2 => by rw [e1, hk q (Nat.lt_of_lt_of_le h1 hS.1) (fun z => h2 (hA q (Nat.lt_of_lt_of_le h1 hS.1) z))]; exact hS.2.1 q h1 h2, fun q hq => by
      rcases List.mem_append.mp hq with h | h
      · exact hS.2.2 q h
      · exact hf _ (hL q h)⟩ T' rfl X'
  exact ⟨t2, st t2 a1, b1⟩
theorem k_blind {w0 : va_W} {av : List Value} {sz : Nat} : FrameBlind (va_Pc av (fun U => U.heap.size = sz ∧ va_P D vwCl w0 U.heap ∧ va_K D vwCl ty U ∧ va_D (fun _ => True) w0)) := by
  intro a U g mk q
  obtain ⟨q0, q1, qP, qK, qD⟩ := q
  exact ⟨q0, q1, qP, va_K.moved (u := U) (U := U.calling g mk a) (Vm.Alike.refl U.vm) qK, qD⟩
/-- a call of an instance method: its cells stand at isC in ws, the others at isR; behind it they are put as ws1 says -/
theorem k_callV {y : MethodName} {maxL nL n index ci : Nat} {ret : Option FieldType} {rm : Room} {own : String} {b : Addr} {As : List Value} {fs : List Value} {q : vw_C} (isC isR pm : List Nat)
    (hM : KC l y bytes maxL ret rm D ty (.ref b :: As) w0 rv w1) (hf : MF y bytes maxL ret n) (hlk : Cond.methodLink own index y ∈ kT)
    (hx : p.tables.exec = Jvm.exec) (hb : c.code = cc) (hml : c.maxLocals = nL) (hown : s.vm.findClass own = some m.cls) (hts : ∀ w ∈ kT, w.before args s = true)
    (hK : va_K D vwCl ty s) (hP : va_P D vwCl ws H) (hD : va_D A ws) (hS : va_S A H0 H locs) (hA : ∀ q, H0.size ≤ q → A q) (hls : ls.size = nL) (hcs : cells ≤ R.cells ∧ slots ≤ R.slots)
    (hdg : decode cc pc = .ok (.invokevirtual index, 3)) (hst : st0 = As.reverse ++ .ref b :: rest) (hn : As.length = n) (hrest : (rest.map fun v => v.category).sum ≤ 8)
    (hR : (rm.cells = 0 ∧ rm.slots = 0) ∧ rm.frames + 1 ≤ R.frames ∧ 8 + (maxL + 11) + rm.locals ≤ R.locals)
    (hC : isC.map (fun i => ws[i]?) = w0.map some) (hRr : isR.map (fun i => ws[i]?) = wr.map some) (hnd : va_nd isC = true ∧ va_nd isR = true ∧ (∀ i ∈ isR, i ∉ isC) ∧ va_nd pm = true)
    (hr0 : w0[0]? = some (b, .inr (ci, fs))) (hci : vwCl[ci]? = some q) (hq : q.1 = y.cls) (hp1 : pm.map (fun i => (wr ++ w1)[i]?) = ws1.map some)
    (kk : ∀ (H1 : Heap) (locs1 : List Loc), va_P D vwCl ws1 H1 → va_D A ws1 → va_S A H0 H1 locs1 → W p l e R s m args below meth c H1 locs1 cells slots Q (F0 m (pc + 3) ls (rv.toList ++ rest))) : W p l e R s m args below meth c H locs cells slots Q (F0 m pc ls st0) := by
  obtain ⟨hf1, hf2, hf3, hf4, hf5⟩ := hf
  obtain ⟨hn1, hn2, hn3, hn4⟩ := hnd
  have hPc : va_P D vwCl w0 H := fun k z hz => by
    have h1 : (isC.map (fun i => ws[i]?))[k]? = (w0.map some)[k]? := by rw [hC]
    simp only [List.getElem?_map, hz, Option.map_some] at h1
    obtain ⟨i, hi, he⟩ := Option.map_eq_some_iff.mp h1
    exact hP i z he
  have hDc := hD.sub (ws' := w0) isC hn1 hC
  have hFc := va_free (wc := w0) hD hS hA isC hC
  have cb : CallB R s args own index y bytes maxL ret (wM y bytes maxL ret) rm 0 0 n := callB_of (ws' := kT) n hts (k_goodIn hf4) rfl hR.1.1 hR.1.2 (hts _ hf3) (hts _ hlk) hf5 hR.2
  have hrv := va_recv hK hPc hci hr0
  rw [hq] at hrv
  refine k_call (va_runV (As := As) (rest := rest) (g := F0 m pc ls st0) ⟨hx, hb, hml, hown, hts⟩ (hM H.size) ⟨cb, hts _ hf1, hts _ hf2⟩ ⟨k_blind, hrv, fun U hU hW => ⟨rfl, by rw [hU], by rw [hU]; exact hPc, va_K.moved hW.alike hK, hDc.weaken (fun _ _ _ _ => trivial)⟩⟩ rfl hn hls hst (lv_room hrest) hdg hcs) hS (fun q _ h => hFc q h) hFc (fun H1 locs1 hP1 hD1 hk1 hS1 => ?_)
  obtain ⟨hP2, hD2⟩ := va_join (wr := wr) (w1 := w1) hP hD isC isR hC hRr hn2 hn3 hk1 hFc hP1 hD1
  refine kk H1 locs1 (fun k z hz => ?_) (hD2.sub (ws' := ws1) pm hn4 hp1) hS1
  have h1 : (pm.map (fun i => (wr ++ w1)[i]?))[k]? = (ws1.map some)[k]? := by rw [hp1]
  simp only [List.getElem?_map, hz, Option.map_some] at h1
  obtain ⟨i, hi, he⟩ := Option.map_eq_some_iff.mp h1
  exact hP2 i z he
/-- a call of a static method -/
theorem k_callS {y : MethodName} {maxL nL n index : Nat} {ret : Option FieldType} {rm : Room} {own : String} {As : List Value} (isC isR pm : List Nat)
    (hM : KC l y bytes maxL ret rm D ty As w0 rv w1) (hf : MS y bytes maxL ret n) (hlk : Cond.methodLink own index y ∈ kT)
    (hx : p.tables.exec = Jvm.exec) (hb : c.code = cc) (hml : c.maxLocals = nL) (hown : s.vm.findClass own = some m.cls) (hts : ∀ w ∈ kT, w.before args s = true)
    (hK : va_K D vwCl ty s) (hP : va_P D vwCl ws H) (hD : va_D A ws) (hS : va_S A H0 H locs) (hA : ∀ q, H0.size ≤ q → A q) (hls : ls.size = nL) (hcs : cells ≤ R.cells ∧ slots ≤ R.slots)
    (hdg : decode cc pc = .ok (.invokestatic index, 3)) (hst : st0 = As.reverse ++ rest) (hn : As.length = n) (hrest : (rest.map fun v => v.category).sum ≤ 8)
    (hR : (rm.cells = 0 ∧ rm.slots = 0) ∧ rm.frames + 1 ≤ R.frames ∧ 8 + (maxL + 11) + rm.locals ≤ R.locals)
    (hC : isC.map (fun i => ws[i]?) = w0.map some) (hRr : isR.map (fun i => ws[i]?) = wr.map some) (hnd : va_nd isC = true ∧ va_nd isR = true ∧ (∀ i ∈ isR, i ∉ isC) ∧ va_nd pm = true)
    (hp1 : pm.map (fun i => (wr ++ w1)[i]?) = ws1.map some)
    (kk : ∀ (H1 : Heap) (locs1 : List Loc), va_P D vwCl ws1 H1 → va_D A ws1 → va_S A H0 H1 locs1 → W p l e R s m args below meth c H1 locs1 cells slots Q (F0 m (pc + 3) ls (rv.toList ++ rest))) : W p l e R s m args below meth c H locs cells slots Q (F0 m pc ls st0) := by
  obtain ⟨hf1, hf3, hf4, hf5⟩ := hf
  obtain ⟨hn1, hn2, hn3, hn4⟩ := hnd
  have hPc : va_P D vwCl w0 H := fun k z hz => by
    have h1 : (isC.map (fun i => ws[i]?))[k]? = (w0.map some)[k]? := by rw [hC]
    simp only [List.getElem?_map, hz, Option.map_some] at h1
    obtain ⟨i, hi, he⟩ := Option.map_eq_some_iff.mp h1
    exact hP i z he
  have hDc := hD.sub (ws' := w0) isC hn1 hC
  have hFc := va_free (wc := w0) hD hS hA isC hC
  have cb : CallB R s args own index y bytes maxL ret (wM y bytes maxL ret) rm 0 0 n := callB_of (ws' := kT) n hts (k_goodIn hf4) rfl hR.1.1 hR.1.2 (hts _ hf3) (hts _ hlk) hf5 hR.2
  refine k_call (va_runS (As := As) (rest := rest) (g := F0 m pc ls st0) ⟨hx, hb, hml, hown, hts⟩ (hM H.size) ⟨cb, hts _ hf1⟩ ⟨k_blind, fun U hU hW => ⟨rfl, by rw [hU], by rw [hU]; exact hPc, va_K.moved hW.alike hK, hDc.weaken (fun _ _ _ _ => trivial)⟩⟩ rfl hn hls hst (lv_room hrest) hdg hcs) hS (fun q _ h => hFc q h) hFc (fun H1 locs1 hP1 hD1 hk1 hS1 => ?_)
  obtain ⟨hP2, hD2⟩ := va_join (wr := wr) (w1 := w1) hP hD isC isR hC hRr hn2 hn3 hk1 hFc hP1 hD1
  refine kk H1 locs1 (fun k z hz => ?_) (hD2.sub (ws' := ws1) pm hn4 hp1) hS1
  have h1 : (pm.map (fun i => (wr ++ w1)[i]?))[k]? = (ws1.map some)[k]? := by rw [hp1]
  simp only [List.getElem?_map, hz, Option.map_some] at h1
  obtain ⟨i, hi, he⟩ := Option.map_eq_some_iff.mp h1
  exact hP2 i z he
end KV
/-! the pictures' own words: a value with a name, a place in range, a truth, an answer of a callee -/
def lt_ {α β : Type} (x : α) (k : α → β) : β := k x
def gd_ {α : Type} (i : Int32) (n : Nat) (x : Option α) : Option α := if i < 0 ∨ n ≤ i.toNatClampNeg then none else x
def gz_ {α : Type} (v : Int32) (x : Option α) : Option α := if v = 0 ∨ v = 1 then x else none
def gp_ {α : Type} (c : Prop) [Decidable c] (x : Option α) : Option α := if c then x else none
def bd_ {α β : Type} (x : Option α) (k : α → Option β) : Option β := match x with
  | none => none
  | some v => k v
theorem lt_at {α β : Type} {x v : α} {k : α → Option β} {o : β} (e : v = x) (h : lt_ x k = some o) : k v = some o := by rw [e]; exact h
theorem gd_in {α : Type} {i : Int32} {n : Nat} {x : Option α} {o : α} (h : gd_ i n x = some o) : vp_in i n := by
  unfold gd_ at h
  split at h
  · cases h
  · assumption
theorem gd_go {α : Type} {i : Int32} {n : Nat} {x : Option α} {o : α} (h : gd_ i n x = some o) : x = some o := by
  unfold gd_ at h
  split at h
  · cases h
  · exact h
theorem gz_in {α : Type} {v : Int32} {x : Option α} {o : α} (h : gz_ v x = some o) : v = 0 ∨ v = 1 := by
  unfold gz_ at h
  split at h
  · assumption
  · cases h
theorem gz_go {α : Type} {v : Int32} {x : Option α} {o : α} (h : gz_ v x = some o) : x = some o := by
  unfold gz_ at h
  split at h
  · exact h
  · cases h
theorem gz_nar {v : Int32} (h : v = 0 ∨ v = 1) : narrow .boolean (.int v) = .int v := by
  rcases h with rfl | rfl <;> decide +kernel
theorem gz_fit {v : Int32} (h : v = 0 ∨ v = 1) : fits .boolean (.int v) = true := by
  rcases h with rfl | rfl <;> decide +kernel
theorem bd_at {α β : Type} {x : Option α} {k : α → Option β} {o : β} (h : bd_ x k = some o) : ∃ v, x = some v ∧ k v = some o := by
  unfold bd_ at h
  split at h
  · cases h
  · exact ⟨_, rfl, h⟩
theorem if_t {α : Type} {c : Prop} {i : Decidable c} {a b o : α} (hc : c) (h : @ite α c i a b = o) : a = o := by rw [if_pos hc] at h; exact h
theorem if_f {α : Type} {c : Prop} {i : Decidable c} {a b o : α} (hc : ¬ c) (h : @ite α c i a b = o) : b = o := by rw [if_neg hc] at h; exact h
end KBASE
