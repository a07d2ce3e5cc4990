/-! a stratum filled -/
theorem S_takeFresh {F : Nat} {m : Int32} {fa fac fr frc la lac : Nat → Int32} (hF : 144 < F) (oa : FSok fa fac) (of : FSok fr frc) (ol : FSok la lac) (hd : ∀ q k, q < 10 → k < 1728 → bt m q = true → (fh fa q k && fh fr q k) = false) : ∃ fa' fac' fr' frc' la' lac', M_Deducer_takeFresh F fa fac fr frc la lac m = some (bI (anyf fr m 10), fa', fac', fr', frc', la', lac') ∧ FSok fa' fac' ∧ FSok fr' frc' ∧ FSok la' lac' ∧ ∀ q k, q < 10 → k < 1728 → fh fa' q k = (fh fa q k || (bt m q && fh fr q k)) ∧ fh fr' q k = (fh fr q k && !bt m q) ∧ fh la' q k = (if bt m q = true then fh fr q k else fh la q k) := by
  obtain ⟨fa', fac', fr', frc', la', lac', e, a1, a2, a3, g⟩ := S_takeF_L (F := F) (m := m) (fr0 := fr) hF 10 0 F false fa fac fr frc la lac rfl (by omega) oa of ol (fun _ _ _ _ _ => rfl) (fun q k h1 h2 h3 _ => hd q k h1 h2 h3) rfl
  have e : M_Deducer_takeFresh_L4 F m F (0 : Int32) (0 : Int32) fa fac fr frc la lac = _ := e
  refine ⟨fa', fac', fr', frc', la', lac', ?_, a1, a2, a3, fun q k hq hk => ?_⟩
  · unfold M_Deducer_takeFresh
    rw [bd_e _ e, gz_b]
  · obtain ⟨g1, g2, g3⟩ := g q k hq hk
    rw [g1, g2, g3]
    simp
section
variable {F : Nat} {P : AP} {s : Nat → Nat} {kind who width term start : Nat → Int32}
/-- the state at the head of a round: A the facts, D the fresh ones -/
def AP.rnd (P : AP) (M : Nat → Prop) (G A D : Nat → Nat → Prop) : Prop := (∀ q k, D q k → M q ∧ ¬ A q k) ∧ (∀ r σ, r < P.R → M (P.pd r 0) → (∀ L, σ L < 12) → P.fits A A r σ → A (P.pd r 0) (P.nu r 0 σ) ∨ D (P.pd r 0) (P.nu r 0 σ)) ∧ (∀ q k, A q k → P.der M G q k) ∧ (∀ q k, D q k → P.der M G q k) ∧ (∀ q k, ¬ M q → (A q k ↔ G q k)) ∧ ∀ q k, G q k → A q k
/-- nothing fresh: all that follows is there -/
theorem AP.rnd_end {M : Nat → Prop} {G A D : Nat → Nat → Prop} (hneg : ∀ r, r < P.R → M (P.pd r 0) → ∀ i, 1 ≤ i → i ≤ P.K r → P.kd r i = 2 → ¬ M (P.pd r i)) (h : P.rnd M G A D) (hD : ∀ q k, ¬ D q k) (q k : Nat) : A q k ↔ P.der M G q k := by
  obtain ⟨h1, h2, h3, h4, h5, h6⟩ := h
  refine ⟨h3 q k, fun d => d A h6 (fun r σ hr hM hσ hf => ?_)⟩
  rcases h2 r σ hr hM hσ (AP.fits_N (fun i i1 i2 z x => (h5 _ x (hneg r hr hM i i1 i2 z))) hf) with z | z
  · exact z
  · exact absurd z (hD _ _)
theorem S_round {fa fr fa1 la1 fr2 : Nat → Int32} (ok : P.ok) {m : Int32} {G : Nat → Nat → Prop} (hneg : ∀ r, r < P.R → bt m (P.pd r 0) = true → ∀ i, 1 ≤ i → i ≤ P.K r → P.kd r i = 2 → ¬ bt m (P.pd r i) = true) (h : P.rnd (fun q => bt m q = true) G (FS fa) (FS fr)) (g1 : ∀ q k, q < 10 → k < 1728 → fh fa1 q k = (fh fa q k || (bt m q && fh fr q k))) (g3 : ∀ q k, q < 10 → k < 1728 → bt m q = true → fh la1 q k = fh fr q k) (g4 : ∀ q k, q < 10 → k < 1728 → (fh fr2 q k = true ↔ (fh fa1 q k = false ∧ ∃ r i, r < P.R ∧ bt m (P.pd r 0) = true ∧ 1 ≤ i ∧ i ≤ P.K r ∧ P.kd r i = 1 ∧ bt m (P.pd r i) = true ∧ P.told r i fa1 la1 q k))) : P.rnd (fun q => bt m q = true) G (FS fa1) (FS fr2) := by
  obtain ⟨h1, h2, h3, h4, h5, h6⟩ := h
  have A1 : ∀ q k, FS fa1 q k ↔ (FS fa q k ∨ FS fr q k) := fun q k => by
    rw [FS_iff, FS_iff, FS_iff]
    constructor
    · rintro ⟨z1, z2, z3⟩
      rw [g1 q k z1 z2, Bool.or_eq_true, Bool.and_eq_true] at z3
      rcases z3 with z | z
      · exact Or.inl ⟨z1, z2, z⟩
      · exact Or.inr ⟨z1, z2, z.2⟩
    · rintro (⟨z1, z2, z3⟩ | ⟨z1, z2, z3⟩)
      · exact ⟨z1, z2, by rw [g1 q k z1 z2, z3]; rfl⟩
      · have := (h1 q k (FS_iff.mpr ⟨z1, z2, z3⟩)).1
        refine ⟨z1, z2, ?_⟩
        rw [g1 q k z1 z2, z3]
        have this : bt m q = true := this
        rw [this]; simp
  have dA1 : ∀ q k, FS fa1 q k → P.der (fun q => bt m q = true) G q k := fun q k z => by
    rcases (A1 q k).mp z with y | y
    · exact h3 q k y
    · exact h4 q k y
  have N1 : ∀ q k, ¬ bt m q = true → (FS fa1 q k ↔ FS fa q k) := fun q k z => by
    rw [A1]
    exact ⟨fun y => y.elim id (fun w => absurd (h1 q k w).1 z), Or.inl⟩
  have L1 : ∀ q k, bt m q = true → (FS la1 q k ↔ FS fr q k) := fun q k z => by
    rw [FS_iff, FS_iff]
    constructor
    · rintro ⟨z1, z2, z3⟩
      exact ⟨z1, z2, by rw [← g3 q k z1 z2 z]; exact z3⟩
    · rintro ⟨z1, z2, z3⟩
      exact ⟨z1, z2, by rw [g3 q k z1 z2 z]; exact z3⟩
  have D2 : ∀ q k, FS fr2 q k ↔ (q < 10 ∧ k < 1728 ∧ ¬ FS fa1 q k ∧ ∃ r i, r < P.R ∧ bt m (P.pd r 0) = true ∧ 1 ≤ i ∧ i ≤ P.K r ∧ P.kd r i = 1 ∧ bt m (P.pd r i) = true ∧ P.told r i fa1 la1 q k) := fun q k => by
    rw [FS_iff]
    constructor
    · rintro ⟨z1, z2, z3⟩
      obtain ⟨y1, y2⟩ := (g4 q k z1 z2).mp z3
      exact ⟨z1, z2, fun w => by rw [(FS_iff.mp w).2.2] at y1; exact absurd y1 (by decide), y2⟩
    · rintro ⟨z1, z2, z3, z4⟩
      refine ⟨z1, z2, (g4 q k z1 z2).mpr ⟨?_, z4⟩⟩
      cases hf : fh fa1 q k with
      | false => rfl
      | true => exact absurd (FS_iff.mpr ⟨z1, z2, hf⟩) z3
  refine ⟨fun q k z => ?_, fun r σ hr hM hσ hf => ?_, dA1, fun q k z => ?_, fun q k z => (N1 q k z).trans (h5 q k z), fun q k z => (A1 q k).mpr (Or.inl (h6 q k z))⟩
  · obtain ⟨z1, z2, z3, r, i, y1, y2, y3, y4, y5, y6, y7⟩ := (D2 q k).mp z
    exact ⟨by rw [y7.1]; exact y2, z3⟩
  · have hM : bt m (P.pd r 0) = true := hM
    have k0 := (ok.2 r hr).2.1
    have p10 := ((ok.2 r hr).2.2 0 (Nat.zero_le _)).2.2.2.2.1 (by omega)
    have hn := AP.nu_lt ok hr (Nat.zero_le _) hσ
    by_cases c : ∃ i, 1 ≤ i ∧ i ≤ P.K r ∧ P.kd r i = 1 ∧ bt m (P.pd r i) = true ∧ FS fr (P.pd r i) (P.nu r i σ)
    · obtain ⟨i, i1, i2, i3, i4, i5⟩ := c
      by_cases c2 : FS fa1 (P.pd r 0) (P.nu r 0 σ)
      · exact Or.inl c2
      · refine Or.inr ((D2 _ _).mpr ⟨p10, hn, c2, r, i, hr, hM, i1, i2, i3, i4, rfl, σ, hσ, fun j j1 j2 => ?_, rfl⟩)
        by_cases e : j = i
        · rw [if_pos e]
          subst e
          exact ⟨fun _ => (L1 _ _ i4).mpr i5, (hf j j1 j2).2⟩
        · rw [if_neg e]
          exact hf j j1 j2
    · refine Or.inl ((A1 _ _).mpr (h2 r σ hr hM hσ (fun i i1 i2 => ?_)))
      obtain ⟨f1, f2, f3⟩ := hf i i1 i2
      refine ⟨fun z => ?_, fun z y => f2 z ((A1 _ _).mpr (Or.inl y)), f3⟩
      rcases (A1 _ _).mp (f1 z) with y | y
      · exact y
      · exact absurd ⟨i, i1, i2, z, (h1 _ _ y).1, y⟩ c
  · obtain ⟨z1, z2, z3, r, i, y1, y2, y3, y4, y5, y6, y7⟩ := (D2 q k).mp z
    obtain ⟨w1, σ, w2, w3, w4⟩ := y7
    rw [w1, w4]
    refine AP.der_clo (M := fun q => bt m q = true) r σ y1 y2 w2 (fun j j1 j2 => ?_)
    obtain ⟨f1, f2, f3⟩ := w3 j j1 j2
    refine ⟨fun v => ?_, fun v u => f2 v ((N1 _ _ (hneg r y1 y2 j j1 j2 v)).mpr ((h5 _ _ (hneg r y1 y2 j j1 j2 v)).mpr u)), f3⟩
    have f1 := f1 v
    by_cases e : j = i
    · rw [if_pos e] at f1
      rw [e] at f1 ⊢
      exact h4 _ _ ((L1 _ _ y6).mp f1)
    · rw [if_neg e] at f1
      exact dA1 _ _ f1
theorem S_fill39 (ok : P.ok) (sf : P.safe) (hc : PC P s kind who width term start) (hF : 24506 < F) {value : Nat → Int32} {m : Int32} {G : Nat → Nat → Prop} (hneg : ∀ r, r < P.R → bt m (P.pd r 0) = true → ∀ i, 1 ≤ i → i ≤ P.K r → P.kd r i = 2 → ¬ bt m (P.pd r i) = true) (hv : VV value (fun _ => 0)) : ∀ (d c n : Nat) (plan fa fac fr frc la lac : Nat → Int32) (x1 x2 x3 x4 x5 x6 : Int32), c + d = 17280 → d < n → FSok fa fac → FSok fr frc → FSok la lac → P.rnd (fun q => bt m q = true) G (FS fa) (FS fr) → c ≤ tot (fb fa) → ∃ plan' fa' fac' fr' frc' la' lac' y1 y2 y3 y4 y5 y6, M_Deducer_fillStratum_L39 F kind who width term start (nI P.R) m n (nI c) value plan x1 x2 x3 x4 x5 x6 fa fac fr frc la lac = some (value, plan', y1, y2, y3, y4, y5, y6, fa', fac', fr', frc', la', lac') ∧ FSok fa' fac' ∧ FSok fr' frc' ∧ FSok la' lac' ∧ (∀ q k, FS fa' q k ↔ P.der (fun q => bt m q = true) G q k) ∧ ∀ q k, ¬ FS fr' q k
  | 0, c, n, plan, fa, fac, fr, frc, la, lac, x1, x2, x3, x4, x5, x6, hcd, hn, oa, of, ol, hR, hct => by
    obtain ⟨n, rfl⟩ : ∃ m, n = m + 1 := ⟨n - 1, by omega⟩
    have hD : ∀ q k, ¬ FS fr q k := fun q k z => by
      obtain ⟨z1, z2, -⟩ := FS_iff.mp z
      exact (hR.1 q k z).2 (tot_full (by omega) z1 z2)
    unfold M_Deducer_fillStratum_L39
    rw [if_pos (show (17280 : Int32) ≤ nI c from nI_le (a := 17280) (by omega) (by omega))]
    exact ⟨_, _, _, _, _, _, _, _, _, _, _, _, _, rfl, oa, of, ol, AP.rnd_end hneg hR hD, hD⟩
  | d + 1, c, n, plan, fa, fac, fr, frc, la, lac, x1, x2, x3, x4, x5, x6, hcd, hn, oa, of, ol, hR, hct => by
    obtain ⟨n, rfl⟩ : ∃ m, n = m + 1 := ⟨n - 1, by omega⟩
    have r16 := ok.1
    obtain ⟨fa1, fac1, fr1, frc1, la1, lac1, e1, oa1, of1, ol1, g⟩ := S_takeFresh (F := F) (m := m) (by omega) oa of ol (fun q k h1 h2 h3 => by
      cases hf : fh fr q k with
      | false => exact Bool.and_false _
      | true =>
        have := (hR.1 q k (FS_iff.mpr ⟨h1, h2, hf⟩)).2
        cases ha : fh fa q k with
        | false => rfl
        | true => exact absurd (FS_iff.mpr ⟨h1, h2, ha⟩) this)
    have fr1e : ∀ q k, q < 10 → k < 1728 → fh fr1 q k = false := fun q k h1 h2 => by
      rw [(g q k h1 h2).2.1]
      cases hf : fh fr q k with
      | false => rfl
      | true =>
        have : bt m q = true := (hR.1 q k (FS_iff.mpr ⟨h1, h2, hf⟩)).1
        rw [this]; rfl
    unfold M_Deducer_fillStratum_L39
    rw [if_neg (show ¬ (17280 : Int32) ≤ nI c from nI_ge (a := c) (b := 17280) (by omega) (by decide)), bd_e _ e1]
    cases hany : anyf fr m 10 with
    | false =>
      have hD : ∀ q k, ¬ FS fr q k := fun q k z => by
        obtain ⟨z1, z2, z3⟩ := FS_iff.mp z
        have := anyf_iff.mpr ⟨q, k, z1, z2, (hR.1 q k z).1, z3⟩
        rw [hany] at this
        exact absurd this (by decide)
      rw [if_pos bI_f]
      refine ⟨_, _, _, _, _, _, _, _, _, _, _, _, _, rfl, oa1, of1, ol1, fun q k => ?_, fun q k z => ?_⟩
      · rw [← AP.rnd_end hneg hR hD, FS_iff, FS_iff]
        constructor
        · rintro ⟨z1, z2, z3⟩
          rw [(g q k z1 z2).1, Bool.or_eq_true, Bool.and_eq_true] at z3
          rcases z3 with z | z
          · exact ⟨z1, z2, z⟩
          · exact absurd (FS_iff.mpr ⟨z1, z2, z.2⟩) (hD q k)
        · rintro ⟨z1, z2, z3⟩
          exact ⟨z1, z2, by rw [(g q k z1 z2).1, z3]; rfl⟩
      · obtain ⟨z1, z2, z3⟩ := FS_iff.mp z
        rw [fr1e q k z1 z2] at z3
        exact absurd z3 (by decide)
    | true =>
      obtain ⟨q0, k0, b1, b2, b3, b4⟩ := anyf_iff.mp hany
      obtain ⟨p2, a1, a2, a3, a4, a5, a6, fr2, frc2, e2, of2, g2⟩ := S_fill56 (F := F) (m := m) ok sf hc (by omega) hv oa1 ol1 P.R 0 F plan fr1 frc1 x1 x2 x3 x4 x5 x6 (by omega) (by omega) of1
      have e2 : M_Deducer_fillStratum_L56 F fa1 fac1 la1 lac1 kind who width term start (nI P.R) m F (0 : Int32) value plan x1 x2 x3 x4 x5 x6 fr1 frc1 = _ := e2
      have hR2 := S_round (fr2 := fr2) ok hneg hR (fun q k h1 h2 => (g q k h1 h2).1) (fun q k h1 h2 h3 => by rw [(g q k h1 h2).2.2, if_pos h3]) (fun q k h1 h2 => by
        rw [g2 q k h2, fr1e q k h1 h2]
        constructor
        · rintro (z | ⟨z, r, i, -, z2⟩)
          · exact absurd z (by decide)
          · exact ⟨z, r, i, z2⟩
        · rintro ⟨z, r, i, z2⟩
          exact Or.inr ⟨z, r, i, Nat.zero_le _, z2⟩)
      have t1 : tot (fb fa) < tot (fb fa1) := tot_lt (q := q0) (k := k0) (fun q k z => by
        obtain ⟨z1, z2, z3⟩ := FS_iff.mp z
        exact FS_iff.mpr ⟨z1, z2, by rw [(g q k z1 z2).1, z3]; rfl⟩) b1 b2 (by
        cases hf : fb fa q0 k0 with
        | false => rfl
        | true => exact absurd hf (hR.1 q0 k0 (FS_iff.mpr ⟨b1, b2, b4⟩)).2) (FS_iff.mpr ⟨b1, b2, by rw [(g q0 k0 b1 b2).1, b3, b4]; simp⟩)
      obtain ⟨plan', fa', fac', fr', frc', la', lac', y1, y2, y3, y4, y5, y6, e, o1, o2, o3, o4, o5⟩ := S_fill39 ok sf hc hF hneg hv d (c + 1) n p2 fa1 fac1 fr2 frc2 la1 lac1 a1 a2 a3 a4 a5 a6 (by omega) (by omega) oa1 of2 ol1 hR2 (by omega)
      rw [if_neg bI_t, bd_e _ e2, lt_e, nI_1]
      exact ⟨plan', fa', fac', fr', frc', la', lac', y1, y2, y3, y4, y5, y6, e, o1, o2, o3, o4, o5⟩
/-- fillStratum: just what follows -/
theorem S_fill {fa fac fr frc la lac : Nat → Int32} (ok : P.ok) (sf : P.safe) (hc : PC P s kind who width term start) (hF : 24506 < F) {value : Nat → Int32} {m : Int32} (hneg : ∀ r, r < P.R → bt m (P.pd r 0) = true → ∀ i, 1 ≤ i → i ≤ P.K r → P.kd r i = 2 → ¬ bt m (P.pd r i) = true) (hv : VV value (fun _ => 0)) {plan : Nat → Int32} {x1 x2 x3 x4 x5 x6 : Int32} (oa : FSok fa fac) (of : FSok fr frc) (ol : FSok la lac) (hfr : ∀ q k, ¬ FS fr q k) : ∃ plan' fa' fac' fr' frc' la' lac' y1 y2 y3 y4 y5 y6, M_Deducer_fillStratum F value plan x1 x2 x3 x4 x5 x6 fa fac fr frc la lac kind who width term start (nI P.R) m = some (value, plan', y1, y2, y3, y4, y5, y6, fa', fac', fr', frc', la', lac') ∧ FSok fa' fac' ∧ FSok fr' frc' ∧ FSok la' lac' ∧ (∀ q k, FS fa' q k ↔ P.der (fun q => bt m q = true) (FS fa) q k) ∧ ∀ q k, ¬ FS fr' q k := by
  have r16 := ok.1
  obtain ⟨p2, a1, a2, a3, a4, a5, a6, fr2, frc2, e2, of2, g2⟩ := S_fill2 (F := F) (m := m) ok sf hc (by omega) hv oa ol P.R 0 F plan fr frc x1 x2 x3 x4 x5 x6 (by omega) (by omega) of
  have e2 : M_Deducer_fillStratum_L2 F fa fac la lac kind who width term start (nI P.R) m F (0 : Int32) value plan x1 x2 x3 x4 x5 x6 fr frc = _ := e2
  have D2 : ∀ q k, FS fr2 q k ↔ (q < 10 ∧ k < 1728 ∧ ¬ FS fa q k ∧ ∃ r, r < P.R ∧ bt m (P.pd r 0) = true ∧ P.told r 0 fa la q k) := fun q k => by
    rw [FS_iff]
    constructor
    · rintro ⟨z1, z2, z3⟩
      rcases (g2 q k z2).mp z3 with y | ⟨y1, r, -, y2⟩
      · exact absurd (FS_iff.mpr ⟨z1, z2, y⟩) (hfr q k)
      · exact ⟨z1, z2, fun w => by rw [(FS_iff.mp w).2.2] at y1; exact absurd y1 (by decide), r, y2⟩
    · rintro ⟨z1, z2, z3, r, z4⟩
      refine ⟨z1, z2, (g2 q k z2).mpr (Or.inr ⟨?_, r, Nat.zero_le _, z4⟩)⟩
      cases hf : fh fa q k with
      | false => rfl
      | true => exact absurd (FS_iff.mpr ⟨z1, z2, hf⟩) z3
  have hR : P.rnd (fun q => bt m q = true) (FS fa) (FS fa) (FS fr2) := by
    refine ⟨fun q k z => ?_, fun r σ hr hM hσ hf => ?_, fun q k z => AP.der_base z, fun q k z => ?_, fun q k _ => Iff.rfl, fun q k z => z⟩
    · obtain ⟨z1, z2, z3, r, y1, y2, y3⟩ := (D2 q k).mp z
      exact ⟨by rw [y3.1]; exact y2, z3⟩
    · have k0 := (ok.2 r hr).2.1
      have p10 := ((ok.2 r hr).2.2 0 (Nat.zero_le _)).2.2.2.2.1 (by omega)
      have hn := AP.nu_lt ok hr (Nat.zero_le _) hσ
      by_cases c2 : FS fa (P.pd r 0) (P.nu r 0 σ)
      · exact Or.inl c2
      · refine Or.inr ((D2 _ _).mpr ⟨p10, hn, c2, r, hr, hM, rfl, σ, hσ, fun j j1 j2 => ?_, rfl⟩)
        rw [if_neg (by omega)]
        exact hf j j1 j2
    · obtain ⟨z1, z2, z3, r, y1, y2, y3⟩ := (D2 q k).mp z
      obtain ⟨w1, σ, w2, w3, w4⟩ := y3
      rw [w1, w4]
      refine AP.der_clo (M := fun q => bt m q = true) r σ y1 y2 w2 (fun j j1 j2 => ?_)
      have := w3 j j1 j2
      rw [if_neg (by omega)] at this
      exact AP.so_mono (fun q k z => AP.der_base z) this
  obtain ⟨plan', fa', fac', fr', frc', la', lac', y1, y2, y3, y4, y5, y6, e, o1, o2, o3, o4, o5⟩ := S_fill39 (F := F) (G := FS fa) ok sf hc hF hneg hv 17280 0 F p2 fa fac fr2 frc2 la lac a1 a2 a3 a4 a5 a6 rfl (by omega) oa of2 ol hR (Nat.zero_le _)
  have e : M_Deducer_fillStratum_L39 F kind who width term start (nI P.R) m F (0 : Int32) value p2 a1 a2 a3 a4 a5 a6 fa fac fr2 frc2 la lac = _ := e
  unfold M_Deducer_fillStratum
  rw [bd_e _ e2, bd_e _ e]
  exact ⟨plan', fa', fac', fr', frc', la', lac', y1, y2, y3, y4, y5, y6, rfl, o1, o2, o3, o4, o5⟩
end
