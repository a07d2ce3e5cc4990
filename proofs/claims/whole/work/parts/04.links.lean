abbrev kTy (cB cI cZ cJ : ClassId) : List (ClassId × FieldType) := [(cB, .byte), (cI, .int), (cZ, .boolean), (cJ, .long)]
theorem in_X0 : ∀ w ∈ u_ws RX0 TX0 5, w ∈ kT := by decide +kernel
theorem in_X1 : ∀ w ∈ u_ws RX1 TX1 2, w ∈ kT := by decide +kernel
theorem in_X2 : ∀ w ∈ u_ws RX2 TX2 2, w ∈ kT := by decide +kernel
theorem in_X3 : ∀ w ∈ u_ws RX3 TX3 4, w ∈ kT := by decide +kernel
theorem in_X4 : ∀ w ∈ u_ws RX4 TX4 12, w ∈ kT := by decide +kernel
theorem in_X5 : ∀ w ∈ u_ws RX5 TX5 4, w ∈ kT := by decide +kernel
theorem in_X6 : ∀ w ∈ u_ws RX6 TX6 12, w ∈ kT := by decide +kernel
theorem in_X7 : ∀ w ∈ u_ws RX7 TX7 2, w ∈ kT := by decide +kernel
theorem in_X8 : ∀ w ∈ u_ws RX8 TX8 12, w ∈ kT := by decide +kernel
theorem in_X9 : ∀ w ∈ u_ws RX9 TX9 42, w ∈ kT := by decide +kernel
theorem k_max1 : Cond.static Lib.Math.max.name ∈ kT := k_in 423 (by decide +kernel)
theorem k_max2 : Cond.code Lib.Math.max.name Lib.Math.max.code 2 (some .int) ∈ kT := k_in 424 (by decide +kernel)
theorem k_min1 : Cond.static Lib.Math.min.name ∈ kT := k_in 420 (by decide +kernel)
theorem k_min2 : Cond.code Lib.Math.min.name Lib.Math.min.code 2 (some .int) ∈ kT := k_in 421 (by decide +kernel)
theorem k_math : Cond.initialized "java/lang/Math" ∈ kT := k_in 80 (by decide +kernel)
theorem k_cp1 : Cond.native arraycopyName ∈ kT := k_in 555 (by decide +kernel)
theorem k_cp2 : Cond.static arraycopyName ∈ kT := k_in 554 (by decide +kernel)
theorem k_cp3 : Cond.initialized "java/lang/System" ∈ kT := k_in 86 (by decide +kernel)
theorem gp_in {α : Type} {c : Prop} [Decidable c] {x : Option α} {o : α} (h : gp_ c x = some o) : c := by
  unfold gp_ at h
  split at h
  · assumption
  · cases h
theorem gp_go {α : Type} {c : Prop} [Decidable c] {x : Option α} {o : α} (h : gp_ c x = some o) : x = some o := by
  unfold gp_ at h
  split at h
  · exact h
  · cases h
theorem k_toI {x : Int32} (k : Int) (v : Int32) (hv : v.toInt = k) (h : ¬ x = v) : ¬ k = x.toInt := fun h2 => h (Int32.toInt_inj.mp (h2.symm.trans hv.symm))
def cs_ {α β γ : Type} (z : α ⊕ β) (f : α → γ) (g : β → γ) : γ := match z with
  | .inl a => f a
  | .inr b => g b
theorem cs_l {α β γ : Type} {z : α ⊕ β} {a : α} {f : α → Option γ} {g : β → Option γ} {o : γ} (e : z = .inl a) (h : cs_ z f g = some o) : f a = some o := by subst e; exact h
theorem cs_r {α β γ : Type} {z : α ⊕ β} {b : β} {f : α → Option γ} {g : β → Option γ} {o : γ} (e : z = .inr b) (h : cs_ z f g = some o) : g b = some o := by subst e; exact h
section KL
variable {p : Program} {l : Launch} {e : Env} {R : Room} {s : State} {m : MethodId} {args : Array Value} {below : List Frame} {meth : Method} {c : Code} {H : Heap} {locs : List Loc} {cells slots : Nat} {Q : State → Prop}
variable {pc : Nat} {ls : Array Slot} {rest : List Value} {A : Nat → Prop} {H0 : Heap} {D : va_G} {ty : List (ClassId × FieldType)} {ws : va_W} {cc : ByteArray}
theorem k_copy (hx : p.tables.exec = Jvm.exec) (hb : c.code = cc) (hml : c.maxLocals = ls.size) {own : String} {index : Nat} (hown : s.vm.findClass own = some m.cls) (hlink : (Cond.methodLink own index arraycopyName).before args s = true) (hts : ∀ w ∈ kT, w.before args s = true) (hK : va_K D vwCl ty s) (hP : va_P D vwCl ws H) (hD : va_D A ws) (hS : va_S A H0 H locs) (q0 q1 t0 : Nat) {a0 b : Nat} {c0 : ClassId} {n0 n1 : Nat} {f g : Nat → Int32} (ha0 : ws[q0]? = some (a0, .inl (c0, n0, .inl f))) (ha1 : ws[q1]? = some (b, .inl (c0, n1, .inl g))) (ht0 : ty[t0]? = some (c0, .int)) {sp dp n : Int32} (h1 : ¬ sp < 0) (h2 : ¬ dp < 0) (h3 : ¬ n < 0) (h4 : sp.toNatClampNeg + n.toNatClampNeg ≤ n0) (h5 : dp.toNatClampNeg + n.toNatClampNeg ≤ n1) (hframes : 1 ≤ R.frames) (hlocals : (rest.map fun v => v.category).sum + (nativeFrameWords "java/lang/System" "arraycopy" 5 + 11) ≤ R.locals) (hdg : decode cc pc = .ok (.invokestatic index, 3))
    (kk : ∀ (g1 : Nat → Int32), g1 = va_cpy f g sp.toNatClampNeg dp.toNatClampNeg n.toNatClampNeg → ∀ (H1 : Heap) (locs1 : List Loc), va_P D vwCl (ws.set q1 (b, .inl (c0, n1, .inl g1))) H1 → va_D A (ws.set q1 (b, .inl (c0, n1, .inl g1))) → va_S A H0 H1 locs1 → W p l e R s m args below meth c H1 locs1 cells slots Q (F0 m (pc + 3) ls rest)) : W p l e R s m args below meth c H locs cells slots Q (F0 m pc ls (.int n :: .int dp :: .ref b :: .int sp :: .ref a0 :: rest)) :=
  va_copyi hx hb hml hown hlink (hts _ k_cp1) (hts _ k_cp2) (hts _ k_cp3) hK hP hD hS q0 q1 t0 t0 ha0 ha1 ht0 ht0 rfl h1 h2 h3 h4 h5 (fun _ _ => rfl) hframes hlocals hdg (fun H1 l1 h1 h2 h3 => kk _ rfl H1 l1 h1 h2 h3)
theorem k_ldcw (hx : p.tables.exec = Jvm.exec) (hb : c.code = cc) {own : String} {index : Nat} {v : Int32} (hown : s.vm.findClass own = some m.cls) (hconst : (Jvm.Cond.constant own index v).before args s = true) (hdg : decode cc pc = .ok (.ldc_w index, 3)) (k : W p l e R s m args below meth c H locs cells slots Q (F0 m (pc + 3) ls (.int v :: rest))) : W p l e R s m args below meth c H locs cells slots Q (F0 m pc ls rest) := by
  intro T hT X
  obtain ⟨t, a1, b1⟩ := k T hT X
  exact ⟨t, va_ldcwI X hx hown hconst rfl (by rw [hb]; exact hdg) t a1, b1⟩
end KL

