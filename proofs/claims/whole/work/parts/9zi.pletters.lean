/-! the program that was read, and the numbers of its letters -/
def apX (X : Nat → En) (s : Nat → Nat) (R : Nat) : AP := (R, fun r => s (r + 1) - s r - 1, fun r i => (X (s r + i)).kd, fun r i => (X (s r + i)).pd, fun r i => (X (s r + i)).wd, fun r i t => (X (s r + i)).tm t)
noncomputable def flB (mterm : Nat → Int32) (a k L : Nat) : Bool := @decide (flt mterm a k L) (Classical.propDecidable _)
theorem flB_iff {mterm : Nat → Int32} {a k L : Nat} : flB mterm a k L = true ↔ flt mterm a k L := @decide_eq_true_iff _ (Classical.propDecidable _)
noncomputable def dln (mterm : Nat → Int32) (a k : Nat) : Nat := ct (flB mterm a k) 32
/-- the first place of letter L -/
def fO (mterm : Nat → Int32) (a b L k : Nat) : Prop := a ≤ k ∧ k < b ∧ mterm k = nI (100 + L) ∧ ∀ x, a ≤ x → x < k → mterm x ≠ nI (100 + L)
theorem least_ex {p : Nat → Prop} : ∀ k, p k → ∃ j, j ≤ k ∧ p j ∧ ∀ x, x < j → ¬ p x := fun k => by
  induction k using Nat.strongRecOn with
  | ind k ih =>
    intro hk
    by_cases c : ∃ j, j < k ∧ p j
    · obtain ⟨j, h1, h2⟩ := c
      obtain ⟨i, g1, g2, g3⟩ := ih j h1 h2
      exact ⟨i, by omega, g2, g3⟩
    · exact ⟨k, Nat.le_refl k, hk, fun x hx hp => c ⟨x, hx, hp⟩⟩
theorem fO_ex {mterm : Nat → Int32} {a b L : Nat} (h : flt mterm a b L) : ∃ k, fO mterm a b L k := by
  obtain ⟨x, h1, h2, h3⟩ := h
  obtain ⟨j, g1, g2, g3⟩ := least_ex (p := fun k => a ≤ k ∧ mterm k = nI (100 + L)) x ⟨h1, h3⟩
  exact ⟨j, g2.1, by omega, g2.2, fun y y1 y2 z => g3 y y2 ⟨y1, z⟩⟩
theorem fO_uniq {mterm : Nat → Int32} {a b L k j : Nat} (h1 : fO mterm a b L k) (h2 : fO mterm a b L j) : k = j := by
  rcases Nat.lt_trichotomy k j with z | z | z
  · exact absurd h1.2.2.1 (h2.2.2.2 k h1.1 z)
  · exact z
  · exact absurd h2.2.2.1 (h1.2.2.2 j h2.1 z)
theorem dln_mono {mterm : Nat → Int32} {a k j : Nat} (h : k ≤ j) : dln mterm a k ≤ dln mterm a j := ct_monoI (fun L z => flB_iff.mpr (by
  obtain ⟨x, h1, h2, h3⟩ := flB_iff.mp z
  exact ⟨x, h1, by omega, h3⟩)) 32
theorem dln_new {mterm : Nat → Int32} {a b L k j : Nat} (hL : L < 32) (h : fO mterm a b L k) (hj : k < j) : dln mterm a k < dln mterm a j := by
  refine ct_more (f := flB mterm a k) (g := flB mterm a j) (k := L) (fun M z => flB_iff.mpr ?_) ?_ (flB_iff.mpr ⟨k, h.1, hj, h.2.2.1⟩) hL
  · obtain ⟨x, h1, h2, h3⟩ := flB_iff.mp z
    exact ⟨x, h1, by omega, h3⟩
  · cases hb : flB mterm a k L with
    | false => rfl
    | true =>
      obtain ⟨x, h1, h2, h3⟩ := flB_iff.mp hb
      exact absurd h3 (h.2.2.2 x h1 h2)
/-- the numbers go up one by one -/
theorem dln_all {mterm : Nat → Int32} {a b : Nat} (hv : ∀ k, a ≤ k → k < b → ∃ v, v < 38 ∧ mterm k = nI (mtv v)) : ∀ (d : Nat), a + d ≤ b → ∀ y, y < dln mterm a (a + d) → ∃ L k, L < 26 ∧ k < a + d ∧ fO mterm a b L k ∧ dln mterm a k = y
  | 0, _, y, hy => by
    have : dln mterm a (a + 0) = 0 := by
      refine (ct_congr (g := fun _ => false) (fun L _ => ?_)).trans (ct_false 32)
      cases hb : flB mterm a (a + 0) L with
      | false => rfl
      | true =>
        obtain ⟨x, h1, h2, _⟩ := flB_iff.mp hb
        omega
    omega
  | d + 1, hd, y, hy => by
    by_cases c : y < dln mterm a (a + d)
    · obtain ⟨L, k, h1, h2, h3⟩ := dln_all hv d (by omega) y c
      exact ⟨L, k, h1, by omega, h3⟩
    · obtain ⟨v, hv38, ev⟩ := hv (a + d) (by omega) (by omega)
      have hmv := mtv_lt hv38
      -- what place a + d adds
      have add : ∀ M, M < 32 → (flt mterm a (a + (d + 1)) M ↔ (flt mterm a (a + d) M ∨ mtv v = 100 + M)) := fun M hM => by
        constructor
        · rintro ⟨x, x1, x2, x3⟩
          by_cases cx : x = a + d
          · subst cx
            rw [ev] at x3
            exact Or.inr ((nI_eq (by omega) (by omega)).mp x3)
          · exact Or.inl ⟨x, x1, by omega, x3⟩
        · rintro (⟨x, x1, x2, x3⟩ | z)
          · exact ⟨x, x1, by omega, x3⟩
          · exact ⟨a + d, by omega, by omega, by rw [ev, z]⟩
      by_cases cn : ∃ L, L < 26 ∧ mtv v = 100 + L ∧ ¬ flt mterm a (a + d) L
      · obtain ⟨L, hL, eL, nL⟩ := cn
        have hfo : fO mterm a b L (a + d) := ⟨by omega, by omega, by rw [ev, eL], fun x x1 x2 z => nL ⟨x, x1, x2, z⟩⟩
        have e1 : dln mterm a (a + (d + 1)) = dln mterm a (a + d) + 1 := by
          have h0 : ct (fun M => flB mterm a (a + d) M || decide (M = L)) 32 = dln mterm a (a + d) + 1 := ct_one (k := L) (by
            cases hb : flB mterm a (a + d) L with
            | false => rfl
            | true => exact absurd (flB_iff.mp hb) nL) (by simp) (fun M hM => by simp [hM]) (by omega)
          rw [← h0]
          refine ct_congr (fun M hM => ?_)
          have := add M hM
          rw [eL] at this
          cases hb : flB mterm a (a + d) M with
          | true =>
            rw [flB_iff.mpr (this.mpr (Or.inl (flB_iff.mp hb)))]; rfl
          | false =>
            by_cases cm : M = L
            · rw [flB_iff.mpr (this.mpr (Or.inr (by omega)))]; simp [cm]
            · cases hc : flB mterm a (a + (d + 1)) M with
              | false => simp [cm]
              | true =>
                rcases this.mp (flB_iff.mp hc) with z | z
                · rw [flB_iff.mpr z] at hb; exact absurd hb (by decide)
                · omega
        exact ⟨L, a + d, hL, by omega, hfo, by omega⟩
      · exfalso
        have e1 : dln mterm a (a + (d + 1)) = dln mterm a (a + d) := by
          refine ct_congr (fun M hM => ?_)
          have := add M hM
          cases hb : flB mterm a (a + d) M with
          | true => exact flB_iff.mpr (this.mpr (Or.inl (flB_iff.mp hb)))
          | false =>
            cases hc : flB mterm a (a + (d + 1)) M with
            | false => rfl
            | true =>
              rcases this.mp (flB_iff.mp hc) with z | z
              · rw [flB_iff.mpr z] at hb; exact absurd hb (by decide)
              · refine absurd ⟨M, by omega, z, fun y => ?_⟩ cn
                rw [flB_iff.mpr y] at hb
                exact absurd hb (by decide)
        omega
section
variable {F : Nat} {X : Nat → En} {s : Nat → Nat} {R n : Nat} {kind place who width term start firstPart partMany rulePlace sort predicate firstTerm termMany partPlace mterm : Nat → Int32}
/-- the number of letter L in rule r -/
noncomputable def ixX (X : Nat → En) (s : Nat → Nat) (mterm : Nat → Int32) (r L : Nat) : Nat := @dite Nat (∃ k, fO mterm (tw_ X (s r)) (tw_ X (s (r + 1))) L k) (Classical.propDecidable _) (fun h => dln mterm (tw_ X (s r)) (Classical.choose h)) (fun _ => 0)
noncomputable def lxX (X : Nat → En) (s : Nat → Nat) (mterm : Nat → Int32) (r y : Nat) : Nat := @dite Nat (∃ L, L < 26 ∧ flt mterm (tw_ X (s r)) (tw_ X (s (r + 1))) L ∧ ixX X s mterm r L = y) (Classical.propDecidable _) (fun h => Classical.choose h) (fun _ => 0)
theorem ixX_eq {r L k : Nat} (h : fO mterm (tw_ X (s r)) (tw_ X (s (r + 1))) L k) : ixX X s mterm r L = dln mterm (tw_ X (s r)) k := by
  unfold ixX
  rw [dif_pos ⟨k, h⟩]
  rw [fO_uniq (Classical.choose_spec (⟨k, h⟩ : ∃ k, fO mterm (tw_ X (s r)) (tw_ X (s (r + 1))) L k)) h]
theorem ixX_inj {r L M : Nat} (hL : L < 26) (hM : M < 26) (h1 : flt mterm (tw_ X (s r)) (tw_ X (s (r + 1))) L) (h2 : flt mterm (tw_ X (s r)) (tw_ X (s (r + 1))) M) (e : ixX X s mterm r L = ixX X s mterm r M) : L = M := by
  obtain ⟨k, hk⟩ := fO_ex h1
  obtain ⟨j, hj⟩ := fO_ex h2
  rw [ixX_eq hk, ixX_eq hj] at e
  have : k = j := by
    rcases Nat.lt_trichotomy k j with z | z | z
    · have := dln_new (show L < 32 by omega) hk z; omega
    · exact z
    · have := dln_new (show M < 32 by omega) hj z; omega
  subst this
  have := hk.2.2.1.symm.trans hj.2.2.1
  have := (nI_eq (by omega) (by omega)).mp this
  omega
/-- what a text without a fault gives -/
theorem apX_ok (h : ST X s R n kind place who width term start firstPart partMany rulePlace sort predicate firstTerm termMany partPlace mterm) {re : Nat → Int32} (g : GX X s R n re) : (apX X s R).ok := by
  obtain ⟨g1, g2, g3, -⟩ := g
  refine ⟨?_, fun r hr => ?_⟩
  · show R ≤ 16
    cases R with
    | zero => omega
    | succ R => have := (g2 R (by omega)).1; omega
  · have hr : r < R := hr
    obtain ⟨b1, b2, b3, b4, b5, b6, b7, b8⟩ := h.2.2.2.2.2 r hr
    refine ⟨(g2 r hr).2.1, b7, fun i hi => ?_⟩
    have hi : i ≤ s (r + 1) - s r - 1 := hi
    obtain ⟨a, -, -⟩ := h.1 (s r + i) (by omega)
    exact ⟨a.1, fun z => b8 (s r + i) (by omega) (by omega), a.2.1, a.2.2.1, a.2.2.2.1, a.2.2.2.2.1⟩
theorem apX_pc (h : ST X s R n kind place who width term start firstPart partMany rulePlace sort predicate firstTerm termMany partPlace mterm) (hn : n ≤ 240) : PC (apX X s R) s kind who width term start := fun r hr => by
  have hr : r < R := hr
  obtain ⟨b1, b2, b3, b4, b5, b6, b7, b8⟩ := h.2.2.2.2.2 r hr
  have e0 := h.st (show r ≤ R by omega)
  refine ⟨e0.1, ?_, ?_, fun i hi => ?_⟩
  · rw [b3]
    refine congrArg nI ?_
    show s (r + 1) = s r + (s (r + 1) - s r - 1) + 1
    omega
  · show s r + (s (r + 1) - s r - 1) < 240
    omega
  · have hi : i ≤ s (r + 1) - s r - 1 := hi
    obtain ⟨-, c, -⟩ := h.1 (s r + i) (by omega)
    exact ⟨c.1, c.2.2.2.1, c.2.2.1, c.2.2.2.2⟩
theorem apX_safe (h : ST X s R n kind place who width term start firstPart partMany rulePlace sort predicate firstTerm termMany partPlace mterm) {re : Nat → Int32} (g : GX X s R n re) : (apX X s R).safe := fun r hr i hi hk L hL => by
  have hr : r < R := hr
  have hi : i ≤ s (r + 1) - s r - 1 := hi
  obtain ⟨b1, -⟩ := h.2.2.2.2.2 r hr
  obtain ⟨e, h1, h2, h3, h4⟩ := g.2.2.1 r hr (s r + i) L (by omega) (by omega) hk hL
  refine ⟨e - s r, by omega, ?_, ?_, ?_⟩
  · show e - s r ≤ s (r + 1) - s r - 1
    omega
  · show (X (s r + (e - s r))).kd = 1
    rw [show s r + (e - s r) = e by omega]; exact h3
  · show lett (fun t => (X (s r + (e - s r))).tm t) (X (s r + (e - s r))).wd L = true
    rw [show s r + (e - s r) = e by omega]; exact h4
theorem apX_flt (h : ST X s R n kind place who width term start firstPart partMany rulePlace sort predicate firstTerm termMany partPlace mterm) {r : Nat} (hr : r < R) {i t : Nat} (hi : i ≤ s (r + 1) - s r - 1) (ht : t < (X (s r + i)).wd) (h12 : 12 ≤ (X (s r + i)).tm t) : flt mterm (tw_ X (s r)) (tw_ X (s (r + 1))) ((X (s r + i)).tm t - 12) ∧ (X (s r + i)).tm t - 12 < 26 := by
  obtain ⟨b1, b2, -⟩ := h.2.2.2.2.2 r hr
  have := (h.1 (s r + i) (by omega)).1.2.2.2.2.1 t ht
  exact ⟨(h.1.flt b2 (by omega)).mpr ⟨s r + i, by omega, by omega, lett_iff.mpr ⟨t, ht, by omega⟩⟩, by omega⟩
theorem nvr_dln (h : ST X s R n kind place who width term start firstPart partMany rulePlace sort predicate firstTerm termMany partPlace mterm) {r : Nat} (hr : r < R) : nvr X s r = dln mterm (tw_ X (s r)) (tw_ X (s (r + 1))) := by
  obtain ⟨b1, b2, -⟩ := h.2.2.2.2.2 r hr
  refine ct_congr (fun L hL => ?_)
  have h1 := h.1.flt (a := s r) (b := s (r + 1)) b2 (show L < 100 by omega)
  have h2 := rlb_iff (X := X) (L := L) (d := s (r + 1) - s r) (e := s r)
  rw [show s r + (s (r + 1) - s r) = s (r + 1) by omega] at h2
  cases hb : rlb X (s (r + 1) - s r) (s r) L with
  | true => exact (flB_iff.mpr (h1.mpr (h2.mp hb))).symm
  | false =>
    cases hc : flB mterm (tw_ X (s r)) (tw_ X (s (r + 1))) L with
    | false => rfl
    | true => rw [h2.mpr (h1.mp (flB_iff.mp hc))] at hb; exact absurd hb (by decide)
theorem apX_ixo (h : ST X s R n kind place who width term start firstPart partMany rulePlace sort predicate firstTerm termMany partPlace mterm) {re : Nat → Int32} (g : GX X s R n re) : (apX X s R).ixo (ixX X s mterm) (nvr X s) := fun r hr => by
  have hr : r < R := hr
  refine ⟨(g.2.1 r hr).2.2, fun i hi t ht h12 => ?_⟩
  obtain ⟨f1, f2⟩ := apX_flt h hr hi ht h12
  obtain ⟨k, hk⟩ := fO_ex f1
  show ixX X s mterm r ((X (s r + i)).tm t - 12) < nvr X s r
  rw [ixX_eq hk, nvr_dln h hr]
  exact dln_new (by omega) hk hk.2.1
theorem lxX_spec {r y : Nat} (he : ∃ L, L < 26 ∧ flt mterm (tw_ X (s r)) (tw_ X (s (r + 1))) L ∧ ixX X s mterm r L = y) : lxX X s mterm r y < 26 ∧ flt mterm (tw_ X (s r)) (tw_ X (s (r + 1))) (lxX X s mterm r y) ∧ ixX X s mterm r (lxX X s mterm r y) = y := by
  unfold lxX
  rw [dif_pos he]
  exact Classical.choose_spec he
theorem apX_ixl (h : ST X s R n kind place who width term start firstPart partMany rulePlace sort predicate firstTerm termMany partPlace mterm) : (apX X s R).ixl (ixX X s mterm) (lxX X s mterm) := fun r hr i hi t ht h12 => by
  have hr : r < R := hr
  obtain ⟨f1, f2⟩ := apX_flt h hr hi ht h12
  obtain ⟨a1, a2, a3⟩ := lxX_spec (X := X) (s := s) (mterm := mterm) (r := r) (y := ixX X s mterm r ((X (s r + i)).tm t - 12)) ⟨_, f2, f1, rfl⟩
  exact ixX_inj a1 f2 a2 f1 a3
theorem apX_ixb (h : ST X s R n kind place who width term start firstPart partMany rulePlace sort predicate firstTerm termMany partPlace mterm) : (apX X s R).ixb (ixX X s mterm) (lxX X s mterm) (nvr X s) := fun r hr y hy => by
  have hr : r < R := hr
  obtain ⟨b1, b2, -⟩ := h.2.2.2.2.2 r hr
  have m1 := tw_mono (X := X) (show s r ≤ s (r + 1) by omega)
  have m2 := tw_mono (X := X) b2
  rw [nvr_dln h hr] at hy
  obtain ⟨L, k, hL, hk, hf, hd⟩ := dln_all (mterm := mterm) (a := tw_ X (s r)) (b := tw_ X (s (r + 1))) (fun k _ h2 => h.1.flat (by omega)) (tw_ X (s (r + 1)) - tw_ X (s r)) (by omega) y (by rw [show tw_ X (s r) + (tw_ X (s (r + 1)) - tw_ X (s r)) = tw_ X (s (r + 1)) by omega]; exact hy)
  obtain ⟨a1, a2, a3⟩ := lxX_spec (X := X) (s := s) (mterm := mterm) (r := r) (y := y) ⟨L, hL, ⟨k, hf.1, hf.2.1, hf.2.2.1⟩, by rw [ixX_eq hf]; exact hd⟩
  refine ⟨a3, ?_⟩
  obtain ⟨e, h1, h2, h3⟩ := (h.1.flt b2 (by omega)).mp a2
  refine ⟨e - s r, ?_, ?_⟩
  · show e - s r ≤ s (r + 1) - s r - 1
    omega
  · show lett (fun t => (X (s r + (e - s r))).tm t) (X (s r + (e - s r))).wd _ = true
    rw [show s r + (e - s r) = e by omega]; exact h3
/-- the reference finds a letter's number -/
theorem S_num_L (h : SE X n kind place who width term sort predicate firstTerm termMany partPlace mterm) (h480 : tw_ X n ≤ 480) {a b L k0 : Nat} (hb : b ≤ tw_ X n) (hL : L < 26) (hk0 : fO mterm a b L k0) : ∀ (d k f : Nat) (seen : Int32), k + d = k0 → a ≤ k → d < f → (∀ M, M < 32 → (bt seen M = true ↔ flt mterm a k M)) → M_Model_numberOf_L18 F mterm (nI (100 + L)) f (nI k) (nI (ct (bt seen) 32)) seen = some (nI (dln mterm a k0))
  | 0, k, f, seen, hk, ha, hf, hs => by
    obtain ⟨f, rfl⟩ : ∃ m, f = m + 1 := ⟨f - 1, by omega⟩
    have : k = k0 := by omega
    subst this
    have hk2 := hk0.2.1
    have e : ct (bt seen) 32 = dln mterm a k := ct_congr (fun M hM => by
      cases hb : bt seen M with
      | true => exact (flB_iff.mpr ((hs M hM).mp hb)).symm
      | false =>
        cases hc : flB mterm a k M with
        | false => rfl
        | true => rw [(hs M hM).mpr (flB_iff.mp hc)] at hb; exact absurd hb (by decide))
    unfold M_Model_numberOf_L18
    rw [gd_n _ (show k < 480 by omega) (by decide), nI_clamp (show k < 2 ^ 31 by omega), if_pos hk0.2.2.1, e]
  | d + 1, k, f, seen, hk, ha, hf, hs => by
    obtain ⟨f, rfl⟩ : ∃ m, f = m + 1 := ⟨f - 1, by omega⟩
    have hk2 := hk0.2.1
    obtain ⟨v, hv, ev⟩ := h.flat (show k < tw_ X n by omega)
    have hmv := mtv_lt hv
    have hne := hk0.2.2.2 k ha (by omega)
    unfold M_Model_numberOf_L18
    rw [gd_n _ (show k < 480 by omega) (by decide), nI_clamp (show k < 2 ^ 31 by omega), if_neg hne, gd_n _ (show k < 480 by omega) (by decide), ev]
    have flt1 : ∀ M, M < 32 → (flt mterm a (k + 1) M ↔ (flt mterm a k M ∨ mtv v = 100 + M)) := fun M hM => by
      constructor
      · rintro ⟨x, x1, x2, x3⟩
        by_cases cx : x = k
        · subst cx
          rw [ev] at x3
          exact Or.inr ((nI_eq (by omega) (by omega)).mp x3)
        · exact Or.inl ⟨x, x1, by omega, x3⟩
      · rintro (⟨x, x1, x2, x3⟩ | z)
        · exact ⟨x, x1, by omega, x3⟩
        · exact ⟨k, ha, by omega, by rw [ev, z]⟩
    by_cases c12 : v < 12
    · rw [if_pos (show nI (mtv v) < (100 : Int32) from nI_lt (b := 100) (hmv.2.mpr c12) (by decide)), lt_e, nI_1]
      refine S_num_L h h480 hb hL hk0 d (k + 1) f seen (by omega) (by omega) (by omega) (fun M hM => (hs M hM).trans ?_)
      rw [flt1 M hM]
      exact ⟨Or.inl, fun z => z.elim id (fun y => by have := hmv.2.mpr c12; omega)⟩
    · have em : mtv v = 100 + (v - 12) := by unfold mtv; rw [if_neg c12]; omega
      have es : nI (mtv v) - (100 : Int32) = nI (v - 12) := by
        rw [em]
        refine (pk_sub (b := 100) (by omega)).trans (congrArg nI (by omega))
      rw [if_neg (show ¬ nI (mtv v) < (100 : Int32) from nI_nlt (b := 100) (by omega) (by omega)), gd_n _ (show k < 480 by omega) (by decide), lt_e, es]
      cases hbb : bt seen (v - 12) with
      | true =>
        rw [if_pos ((bt_ask1 seen (by omega)).mpr hbb), lt_e, nI_1]
        refine S_num_L h h480 hb hL hk0 d (k + 1) f seen (by omega) (by omega) (by omega) (fun M hM => (hs M hM).trans ?_)
        rw [flt1 M hM]
        refine ⟨Or.inl, fun z => z.elim id (fun y => ?_)⟩
        have : M = v - 12 := by omega
        rw [this]
        exact (hs _ (by omega)).mp hbb
      | false =>
        have hct : ct (bt (seen ||| ((1 : Int32) <<< (nI (v - 12) &&& 31)))) 32 = ct (bt seen) 32 + 1 := by
          have h32 : ∀ j, 32 ≤ j → bt (seen ||| ((1 : Int32) <<< (nI (v - 12) &&& 31))) j = bt seen j := fun j hj => by rw [b_big hj, b_big hj]
          refine ct_one (k := v - 12) hbb ?_ (fun j hj => ?_) (by omega)
          · rw [b_or, bt_one _ (by omega) _ (by omega)]; simp
          · by_cases cj : j < 32
            · rw [b_or, bt_one _ (by omega) j cj]; simp [hj]
            · exact h32 j (by omega)
        rw [if_neg (fun z => by rw [(bt_ask1 seen (by omega)).mp z] at hbb; exact absurd hbb (by decide)), gd_n _ (show k < 480 by omega) (by decide), lt_e, lt_e, lt_e, lt_e, nI_1, nI_1, ← hct]
        refine S_num_L h h480 hb hL hk0 d (k + 1) f _ (by omega) (by omega) (by omega) (fun M hM => ?_)
        rw [b_or, Bool.or_eq_true, bt_one _ (by omega) M hM, decide_eq_true_iff, hs M hM, flt1 M hM]
        refine or_congr Iff.rfl ?_
        omega
theorem S_numberOfM (h : ST X s R n kind place who width term start firstPart partMany rulePlace sort predicate firstTerm termMany partPlace mterm) (hn : n ≤ 240) (h480 : tw_ X n ≤ 480) (hF : 480 < F) {r : Nat} (hr : r < R) {L : Nat} (hL : L < 26) (hf : flt mterm (tw_ X (s r)) (tw_ X (s (r + 1))) L) : M_Model_numberOf F firstPart firstTerm mterm (nI r) (nI (100 + L)) = some (nI (ixX X s mterm r L)) := by
  obtain ⟨b1, b2, -⟩ := h.2.2.2.2.2 r hr
  have e1 := h.fp hr
  have hR := h.2.2.2.1
  have m2 := tw_mono (X := X) b2
  obtain ⟨g, -, c⟩ := h.1 (s r) (by omega)
  obtain ⟨k, hk⟩ := fO_ex hf
  have hk1 := hk.1
  have hk2 := hk.2.1
  have c0 : ct (bt (0 : Int32)) 32 = 0 := by
    rw [ct_congr (g := fun _ => false) (fun m _ => b_0 m)]
    exact ct_false 32
  have := S_num_L (F := F) h.1 h480 m2 hL hk (k - tw_ X (s r)) (tw_ X (s r)) F 0 (by omega) (Nat.le_refl _) (by omega) (fun M _ => ⟨fun z => by rw [b_0] at z; exact absurd z (by decide), fun ⟨x, x1, x2, _⟩ => by omega⟩)
  rw [c0, ← ixX_eq hk] at this
  unfold M_Model_numberOf
  rw [gd_n _ (show r < 250 by omega) (by decide), nI_clamp (show r < 2 ^ 31 by omega), e1.1, gd_n _ (show s r < 260 by omega) (by decide), lt_e, nI_clamp (show s r < 2 ^ 31 by omega), c.2.2.1]
  exact bd_e (fun z9 => some z9) this
end
