/-! refresh: what is stale is made anew -/
/-- a predicate is stale: DERIVED, and it depends on a touched one -/
def SL (so : Nat → Nat) (reach : Nat → Int32) (m : Int32) (q : Nat) : Prop := q < 10 ∧ so q = 2 ∧ ∃ b, b < 32 ∧ bt (reach q) b = true ∧ bt m b = true
theorem and_0 {x y : Int32} : x &&& y = 0 ↔ ¬ ∃ b, b < 32 ∧ bt x b = true ∧ bt y b = true := by
  constructor
  · rintro h ⟨b, h1, h2, h3⟩
    have := b_and x y b
    rw [h, b_0, h2, h3] at this
    exact absurd this (by decide)
  · intro h
    refine b_ext (fun b hb => ?_)
    rw [b_and, b_0]
    cases h1 : bt x b with
    | false => rfl
    | true =>
      cases h2 : bt y b with
      | false => rfl
      | true => exact absurd ⟨b, hb, h1, h2⟩ h
theorem bt0 {x : Int32} (h : x = 0) (b : Nat) : bt x b = false := by rw [h]; exact b_0 b
theorem ne0_ex {x : Int32} (h : ¬ x = 0) : ∃ b, b < 32 ∧ bt x b = true := Classical.byContradiction (fun z => h (b_ext (fun b hb => by
  rw [b_0]
  cases hx : bt x b with
  | false => rfl
  | true => exact absurd ⟨b, hb, hx⟩ z)))
section
variable {F : Nat} {P : AP} {s st so : Nat → Nat} {kind who width term start sort stratum reach : Nat → Int32}
theorem S_ref41 (ok : P.ok) (sf : P.safe) (hc : PC P s kind who width term start) (hF : 24506 < F) (hst : P.str st) (hsr : ∀ p, p < 10 → stratum p = nI (st p)) (hs10 : ∀ p, st p ≤ 10) {value : Nat → Int32} (hv : VV value (fun _ => 0)) {y : Int32} {sl : Nat → Prop} (hy : ∀ b, bt y b = true ↔ sl b) (hsl : ∀ p, sl p → p < 10) {C : Nat → Nat → Prop} : ∀ (d t n : Nat) (plan fa fac fr frc la lac : Nat → Int32) (x1 x2 x3 x4 x5 x6 : Int32), t + d = 10 → d < n → FSok fa fac → FSok fr frc → FSok la lac → (∀ q k, FS fa q k ↔ P.ref st sl C t q k) → (∀ q k, ¬ FS fr q k) → ∃ plan' fa' fac' fr' frc' la' lac' y1 y2 y3 y4 y5 y6, M_Deducer_refresh_L41 F kind who width term start (nI P.R) stratum y n (nI (t + 1)) value plan x1 x2 x3 x4 x5 x6 fa fac fr frc la lac = some (value, plan', y1, y2, y3, y4, y5, y6, fa', fac', fr', frc', la', lac') ∧ FSok fa' fac' ∧ FSok fr' frc' ∧ FSok la' lac' ∧ (∀ q k, FS fa' q k ↔ P.ref st sl C 10 q k) ∧ ∀ q k, ¬ FS fr' q k
  | 0, t, n, plan, fa, fac, fr, frc, la, lac, x1, x2, x3, x4, x5, x6, hd, hn, oa, of, ol, hA, hfr => by
    obtain ⟨n, rfl⟩ : ∃ m, n = m + 1 := ⟨n - 1, by omega⟩
    have : t = 10 := by omega
    subst this
    unfold M_Deducer_refresh_L41
    rw [if_pos (by decide +kernel)]
    exact ⟨_, _, _, _, _, _, _, _, _, _, _, _, _, rfl, oa, of, ol, hA, hfr⟩
  | d + 1, t, n, plan, fa, fac, fr, frc, la, lac, x1, x2, x3, x4, x5, x6, hd, hn, oa, of, ol, hA, hfr => by
    obtain ⟨n, rfl⟩ : ∃ m, n = m + 1 := ⟨n - 1, by omega⟩
    unfold M_Deducer_refresh_L41
    rw [if_neg (show ¬ (10 : Int32) < nI (t + 1) from nI_nlt (a := 10) (b := t + 1) (by omega) (by omega))]
    by_cases c : y = 0
    · rw [if_pos c]
      have nosl : ∀ p, ¬ sl p := fun p z => by
        have := (hy p).mpr z
        rw [bt0 c] at this
        exact absurd this (by decide)
      have up : ∀ e q k, P.ref st sl C (t + e) q k ↔ P.ref st sl C t q k := fun e => by
        induction e with
        | zero => exact fun q k => Iff.rfl
        | succ e ih => exact fun q k => (AP.der_iff (M := fun p => sl p ∧ st p = t + e + 1) (fun z => nosl q z.1)).trans (ih q k)
      refine ⟨_, _, _, _, _, _, _, _, _, _, _, _, _, rfl, oa, of, ol, fun q k => ?_, hfr⟩
      rw [hA, ← up (d + 1), show t + (d + 1) = 10 by omega]
    · obtain ⟨mm, e1, hm⟩ := S_membersOf (F := F) (stratum := stratum) (nI (t + 1)) (by omega)
      have hM : ∀ q, bt (y &&& mm) q = true ↔ (sl q ∧ st q = t + 1) := fun q => by
        rw [b_and, Bool.and_eq_true, hy q]
        constructor
        · rintro ⟨z1, z2⟩
          have q10 := hsl q z1
          rw [hm q (by omega), Bool.and_eq_true, decide_eq_true_iff, decide_eq_true_iff, hsr q q10, nI_eq (by have := hs10 q; omega) (by omega)] at z2
          exact ⟨z1, z2.2⟩
        · rintro ⟨z1, z2⟩
          have q10 := hsl q z1
          refine ⟨z1, ?_⟩
          rw [hm q (by omega), Bool.and_eq_true, decide_eq_true_iff, decide_eq_true_iff, hsr q q10, z2]
          exact ⟨q10, rfl⟩
      have eM : (fun q => bt (y &&& mm) q = true) = (fun p => sl p ∧ st p = t + 1) := funext (fun q => propext (hM q))
      rw [if_neg c, bd_e _ e1, lt_e]
      by_cases c2 : y &&& mm = 0
      · rw [if_pos c2, lt_e, nI_1]
        refine S_ref41 ok sf hc hF hst hsr hs10 hv hy hsl d (t + 1) n plan fa fac fr frc la lac x1 x2 x3 x4 x5 x6 (by omega) (by omega) oa of ol (fun q k => (hA q k).trans ?_) hfr
        refine (AP.der_iff (M := fun p => sl p ∧ st p = t + 1) (fun z => ?_)).symm
        have := (hM q).mpr z
        rw [bt0 c2] at this
        exact absurd this (by decide)
      · have hneg : ∀ r, r < P.R → bt (y &&& mm) (P.pd r 0) = true → ∀ i, 1 ≤ i → i ≤ P.K r → P.kd r i = 2 → ¬ bt (y &&& mm) (P.pd r i) = true := fun r hr z i i1 i2 z2 z3 => by
          have w1 := (hM _).mp z
          have w2 := (hM _).mp z3
          have w3 := ((hst r hr).2 i i1 i2).2 z2
          omega
        obtain ⟨p1, fa1, fac1, fr1, frc1, la1, lac1, a1, a2, a3, a4, a5, a6, e2, o1, o2, o3, o4, o5⟩ := S_fill (F := F) (m := y &&& mm) (plan := plan) (x1 := x1) (x2 := x2) (x3 := x3) (x4 := x4) (x5 := x5) (x6 := x6) ok sf hc hF hneg hv oa of ol hfr
        rw [if_neg c2, bd_e _ e2, lt_e, nI_1]
        refine S_ref41 ok sf hc hF hst hsr hs10 hv hy hsl d (t + 1) n p1 fa1 fac1 fr1 frc1 la1 lac1 a1 a2 a3 a4 a5 a6 (by omega) (by omega) o1 o2 o3 (fun q k => (o4 q k).trans ?_) o5
        have eG : FS fa = P.ref st sl C t := funext (fun q => funext (fun k => propext (hA q k)))
        rw [eM, eG]
        exact Iff.rfl
theorem S_refresh {fa fac fr frc la lac : Nat → Int32} (ok : P.ok) (sf : P.safe) (hc : PC P s kind who width term start) (hF : 24506 < F) (hst : P.str st) (hsr : ∀ p, p < 10 → stratum p = nI (st p)) (hs10 : ∀ p, st p ≤ 10) (hso : ∀ p, p < 10 → sort p = nI (so p) ∧ so p ≤ 2) {value : Nat → Int32} (hv : VV value (fun _ => 0)) {m : Int32} {plan : Nat → Int32} {x1 x2 x3 x4 x5 x6 : Int32} (oa : FSok fa fac) (of : FSok fr frc) (ol : FSok la lac) (hfr : ∀ q k, ¬ FS fr q k) : ∃ plan' fa' fac' fr' frc' la' lac' y1 y2 y3 y4 y5 y6, M_Deducer_refresh F value plan x1 x2 x3 x4 x5 x6 fa fac fr frc la lac kind who width term start (nI P.R) sort stratum reach m = some (value, plan', y1, y2, y3, y4, y5, y6, fa', fac', fr', frc', la', lac') ∧ FSok fa' fac' ∧ FSok fr' frc' ∧ FSok la' lac' ∧ (∀ q k, FS fa' q k ↔ P.ref st (SL so reach m) (fun q k => FS fa q k ∧ ¬ SL so reach m q) 10 q k) ∧ ∀ q k, ¬ FS fr' q k := by
  obtain ⟨y, e1, hy⟩ := S_dep (F := F) (sort := sort) (reach := reach) m (by omega)
  have hy : ∀ b, bt y b = true ↔ SL so reach m b := fun b => by
    by_cases hb : b < 32
    · rw [hy b hb, Bool.and_eq_true, Bool.and_eq_true, decide_eq_true_iff, decide_eq_true_iff, Bool.not_eq_true', decide_eq_false_iff_not, and_0, Classical.not_not]
      constructor
      · rintro ⟨⟨z1, z2⟩, z3⟩
        refine ⟨z1, ?_, z3⟩
        have := hso b z1
        rw [this.1] at z2
        exact (nI_eq (a := so b) (b := 2) (by omega) (by decide)).mp z2
      · rintro ⟨z1, z2, z3⟩
        refine ⟨⟨z1, ?_⟩, z3⟩
        rw [(hso b z1).1, z2]; rfl
    · rw [b_big (by omega)]
      exact ⟨fun z => absurd z (by decide), fun z => by have := z.1; omega⟩
  obtain ⟨fa0, fac0, e2, oa0, h0⟩ := S_ref11 (F := F) (m := y) (by omega) 10 0 F fa fac rfl (by omega) oa
  have e2 : M_Deducer_refresh_L11 F y F (0 : Int32) fa fac = _ := e2
  obtain ⟨p1, fa1, fac1, fr1, frc1, la1, lac1, a1, a2, a3, a4, a5, a6, e3, o1, o2, o3, o4, o5⟩ := S_ref41 (F := F) (sl := SL so reach m) (C := fun q k => FS fa q k ∧ ¬ SL so reach m q) ok sf hc hF hst hsr hs10 hv hy (fun p z => z.1) 10 0 F plan fa0 fac0 fr frc la lac x1 x2 x3 x4 x5 x6 rfl (by omega) oa0 of ol (fun q k => by
    show FS fa0 q k ↔ (FS fa q k ∧ ¬ SL so reach m q)
    rw [FS_iff, FS_iff, ← hy q]
    constructor
    · rintro ⟨z1, z2, z3⟩
      rw [h0 q k z1 z2] at z3
      simp at z3
      refine ⟨⟨z1, z2, z3.1⟩, by rw [z3.2]; decide⟩
    · rintro ⟨⟨z1, z2, z3⟩, z4⟩
      refine ⟨z1, z2, ?_⟩
      rw [h0 q k z1 z2, z3]
      simp at z4
      simp [z4]) hfr
  have e3 : M_Deducer_refresh_L41 F kind who width term start (nI P.R) stratum y F (1 : Int32) value plan x1 x2 x3 x4 x5 x6 fa0 fac0 fr frc la lac = _ := e3
  unfold M_Deducer_refresh
  rw [bd_e _ e1, bd_e _ e2, bd_e _ e3]
  exact ⟨p1, fa1, fac1, fr1, frc1, la1, lac1, a1, a2, a3, a4, a5, a6, rfl, o1, o2, o3, o4, o5⟩
/-- what the class knows of the predicates -/
def PI (P : AP) (st so : Nat → Nat) (reach : Nat → Int32) : Prop := P.str st ∧ (∀ p, st p ≤ 10) ∧ (∀ p, so p ≤ 2) ∧ (∀ p, so p = 2 ↔ 1 ≤ st p) ∧ (∀ r, r < P.R → so (P.pd r 0) = 2) ∧ (∀ p, 10 ≤ p → so p = 0) ∧ (∀ r, r < P.R → ∀ i, 1 ≤ i → i ≤ P.K r → P.kd r i = 1 ∨ P.kd r i = 2 → ∀ b, b < 32 → bt (reach (P.pd r i)) b = true → bt (reach (P.pd r 0)) b = true) ∧ ∀ p, p < 10 → so p = 2 ∨ 0 < P.R → bt (reach p) p = true
/-- only the stale ones anew, or all of them: the same. B: the BASE facts as they are now, O: all facts as they were, over the BASE facts B0 -/
theorem PI_ref {m : Int32} {B B0 C : Nat → Nat → Prop} (ok : P.ok) (h : PI P st so reach) (hB : ∀ p n, so p = 2 → ¬ B p n) (hm : ∀ p, p < 10 → ¬ bt m p = true → ∀ n, (B0 p n ↔ B p n)) (h10 : ∀ p n, B p n ∨ B0 p n → p < 10) (hC : ∀ p n, C p n ↔ ((so p = 2 ∧ P.lay st B0 10 p n) ∨ (so p ≠ 2 ∧ B p n)) ∧ ¬ SL so reach m p) : ∀ q k, P.ref st (SL so reach m) C 10 q k ↔ P.lay st B 10 q k := fun q k => by
  obtain ⟨i1, i2, i3, i4, i5, i6, i7, i8⟩ := h
  have hN : ∀ r, r < P.R → ¬ SL so reach m (P.pd r 0) → ∀ i, 1 ≤ i → i ≤ P.K r → P.kd r i = 1 ∨ P.kd r i = 2 → ¬ SL so reach m (P.pd r i) := fun r hr h1 i a1 a2 a3 h2 => by
    obtain ⟨b1, b2, b, b3, b4, b5⟩ := h2
    have k0 := (ok.2 r hr).2.1
    exact h1 ⟨((ok.2 r hr).2.2 0 (Nat.zero_le _)).2.2.2.2.1 (by omega), i5 r hr, b, b3, i7 r hr i a1 a2 a3 b b3 b4, b5⟩
  -- what is neither stale nor touched was right before
  have hN2 : ∀ r, r < P.R → (so (P.pd r 0) = 2 ∧ ¬ SL so reach m (P.pd r 0)) ∨ (so (P.pd r 0) ≠ 2 ∧ (P.pd r 0 < 10 → ¬ bt m (P.pd r 0) = true)) → ∀ i, 1 ≤ i → i ≤ P.K r → P.kd r i = 1 ∨ P.kd r i = 2 → (so (P.pd r i) = 2 ∧ ¬ SL so reach m (P.pd r i)) ∨ (so (P.pd r i) ≠ 2 ∧ (P.pd r i < 10 → ¬ bt m (P.pd r i) = true)) := fun r hr h1 i a1 a2 a3 => by
    have s2 := i5 r hr
    have h1 : ¬ SL so reach m (P.pd r 0) := by
      rcases h1 with z | z
      · exact z.2
      · exact absurd s2 z.1
    by_cases c : so (P.pd r i) = 2
    · exact Or.inl ⟨c, hN r hr h1 i a1 a2 a3⟩
    · refine Or.inr ⟨c, fun c2 c3 => h1 ?_⟩
      have k0 := (ok.2 r hr).2.1
      exact ⟨((ok.2 r hr).2.2 0 (Nat.zero_le _)).2.2.2.2.1 (by omega), s2, P.pd r i, by omega, i7 r hr i a1 a2 a3 _ (by omega) (i8 _ c2 (Or.inr (by omega))), c3⟩
  have loc : ∀ q k, (so q = 2 ∧ ¬ SL so reach m q) ∨ (so q ≠ 2 ∧ (q < 10 → ¬ bt m q = true)) → (P.lay st B0 10 q k ↔ P.lay st B 10 q k) := fun q k z => AP.lay_local (N := fun q => (so q = 2 ∧ ¬ SL so reach m q) ∨ (so q ≠ 2 ∧ (q < 10 → ¬ bt m q = true))) hN2 (fun q k y => by
    by_cases c10 : q < 10
    · by_cases c : bt m q = true
      · rcases y with y | y
        · exact absurd ⟨c10, y.1, q, by omega, i8 q c10 (Or.inl y.1), c⟩ y.2
        · exact absurd c (y.2 c10)
      · exact hm q c10 c k
    · exact ⟨fun w => absurd (h10 q k (Or.inr w)) c10, fun w => absurd (h10 q k (Or.inl w)) c10⟩) 10 q k z
  refine (AP.ref_lay i1 (fun p z => ⟨(i4 p).mp z.2.1, i2 p⟩) hN (fun p n z => hB p n z.2.1) (fun p n z y => ((hC p n).mp y).2 z) (fun p n z => ?_) 10 (Nat.le_refl 10)).1 q k (Or.inr (i2 q))
  rw [hC]
  by_cases c : so p = 2
  · refine ⟨fun y => ?_, fun y => ⟨Or.inl ⟨c, (loc p n (Or.inl ⟨c, z⟩)).mpr y⟩, z⟩⟩
    rcases y.1 with w | w
    · exact (loc p n (Or.inl ⟨c, z⟩)).mp w.2
    · exact absurd c w.1
  · have s0 : st p = 0 := by have := (i4 p).mpr; omega
    rw [AP.lay_low (B := B) 10 (Or.inr s0)]
    refine ⟨fun y => ?_, fun y => ⟨Or.inr ⟨c, y⟩, z⟩⟩
    rcases y.1 with w | w
    · exact absurd w.1 c
    · exact w.2
end
