/-! a stratum filled: round after round from the latest facts -/
def fb (row : Nat → Int32) (q k : Nat) : Bool := decide (q < 10) && (decide (k < 1728) && fh row q k)
def FS (row : Nat → Int32) : Nat → Nat → Prop := GP (fb row)
theorem FS_iff {row : Nat → Int32} {q k : Nat} : FS row q k ↔ q < 10 ∧ k < 1728 ∧ fh row q k = true := by
  unfold FS GP fb
  simp
theorem ct_full {f : Nat → Bool} : ∀ {N : Nat}, N ≤ ct f N → ∀ n, n < N → f n = true
  | 0, _, n, h => absurd h (Nat.not_lt_zero _)
  | N + 1, h, n, hn => by
    have h1 : N + 1 ≤ ct f N + (if f N then 1 else 0) := h
    have h2 := ct_le f N
    cases hf : f N with
    | false => rw [hf] at h1; simp at h1; omega
    | true =>
      by_cases e : n = N
      · subst e; exact hf
      · rw [hf] at h1
        simp at h1
        exact ct_full h1 n (by omega)
theorem tot_full {G : Nat → Nat → Bool} (h : 17280 ≤ tot G) {q k : Nat} (hq : q < 10) (hk : k < 1728) : G q k = true := by
  have := ct_full h (1728 * q + k) (by omega)
  have e1 : (1728 * q + k) / 1728 = q := by omega
  have e2 : (1728 * q + k) % 1728 = k := by omega
  have this : G ((1728 * q + k) / 1728) ((1728 * q + k) % 1728) = true := this
  rw [e1, e2] at this
  exact this
theorem ct_ex {f : Nat → Bool} : ∀ {N : Nat}, 0 < ct f N → ∃ n, n < N ∧ f n = true
  | 0, h => absurd h (Nat.lt_irrefl 0)
  | N + 1, h => by
    have h : 0 < ct f N + (if f N then 1 else 0) := h
    cases hf : f N with
    | true => exact ⟨N, by omega, hf⟩
    | false =>
      rw [hf] at h
      simp at h
      obtain ⟨n, h1, h2⟩ := ct_ex h
      exact ⟨n, by omega, h2⟩
theorem anyf_iff {fr : Nat → Int32} {m : Int32} : ∀ {j : Nat}, anyf fr m j = true ↔ ∃ q k, q < j ∧ k < 1728 ∧ bt m q = true ∧ fh fr q k = true
  | 0 => ⟨fun h => absurd (show false = true from h) (by decide), fun ⟨q, _, h, _⟩ => absurd h (Nat.not_lt_zero _)⟩
  | j + 1 => by
    show (anyf fr m j || (bt m j && decide (0 < fc fr j))) = true ↔ _
    rw [Bool.or_eq_true, anyf_iff, Bool.and_eq_true, decide_eq_true_iff]
    constructor
    · rintro (⟨q, k, h1, h2, h3, h4⟩ | ⟨h1, h2⟩)
      · exact ⟨q, k, by omega, h2, h3, h4⟩
      · obtain ⟨k, h3, h4⟩ := ct_ex h2
        exact ⟨j, k, by omega, h3, h1, h4⟩
    · rintro ⟨q, k, h1, h2, h3, h4⟩
      by_cases e : q = j
      · subst e
        exact Or.inr ⟨h3, ct_pos h4 h2⟩
      · exact Or.inl ⟨q, k, by omega, h2, h3, h4⟩
section
variable {F : Nat} {P : AP} {s : Nat → Nat} {kind who width term start : Nat → Int32}
theorem sob_so {fa la : Nat → Int32} (ok : P.ok) {r le i : Nat} (hr : r < P.R) (h1 : 1 ≤ i) (hi : i ≤ P.K r) {σ : Nat → Nat} (hσ : ∀ L, σ L < 12) : P.sob r le fa la i (fun L => σ L + 1) = true ↔ P.so (FS (if i = le then la else fa)) (FS fa) r i σ := by
  obtain ⟨k5, k1, w3, w2, p10, t38⟩ := (ok.2 r hr).2.2 i hi
  have k1 := k1 h1
  have hn := AP.nu_lt ok hr hi hσ
  have en : P.nn r i (fun L => σ L + 1) = P.nu r i σ := nn_σ σ
  unfold AP.sob AP.so
  by_cases c1 : P.kd r i = 1
  · have p10 := p10 (by omega)
    rw [if_pos c1, en]
    have : P.src r le fa la i (P.nu r i σ) = true ↔ FS (if i = le then la else fa) (P.pd r i) (P.nu r i σ) := by
      rw [FS_iff]
      unfold AP.src
      by_cases c : i = le
      · rw [if_pos c, if_pos c]; exact ⟨fun z => ⟨p10, hn, z⟩, fun z => z.2.2⟩
      · rw [if_neg c, if_neg c]; exact ⟨fun z => ⟨p10, hn, z⟩, fun z => z.2.2⟩
    rw [this]
    exact ⟨fun z => ⟨fun _ => z, fun y => by omega, fun y => by omega⟩, fun z => z.1 c1⟩
  · rw [if_neg c1]
    unfold pt
    by_cases c2 : P.kd r i = 2
    · have p10 := p10 (by omega)
      rw [if_neg c1, if_pos c2]
      have en : nmv (fun t => tn (fun L => σ L + 1) (P.tm r i t) - 1) (P.wd r i) = P.nu r i σ := en
      rw [en]
      refine ⟨fun z => ⟨fun y => absurd y c1, fun _ y => ?_, fun y => by omega⟩, fun z => ?_⟩
      · rw [(FS_iff.mp y).2.2] at z
        exact absurd z (by decide)
      · have := z.2.1 c2
        rw [FS_iff] at this
        cases hf : fh fa (P.pd r i) (P.nu r i σ) with
        | false => rfl
        | true => exact absurd ⟨p10, hn, hf⟩ this
    · rw [if_neg c1, if_neg c2]
      show cmpv (P.kd r i - 3) (tn (fun L => σ L + 1) (P.tm r i 0) - 1) (tn (fun L => σ L + 1) (P.tm r i 1) - 1) = true ↔ _
      rw [tn_σ, tn_σ]
      exact ⟨fun z => ⟨fun y => absurd y c1, fun y => absurd y c2, fun _ => z⟩, fun z => z.2.2 (by omega)⟩
/-- what a rule tells, its part le looked up among the latest -/
def AP.told (P : AP) (r le : Nat) (fa la : Nat → Int32) (q k : Nat) : Prop := q = P.pd r 0 ∧ ∃ σ : Nat → Nat, (∀ L, σ L < 12) ∧ (∀ i, 1 ≤ i → i ≤ P.K r → P.so (FS (if i = le then la else fa)) (FS fa) r i σ) ∧ k = P.nu r 0 σ
theorem bso_told {fa la : Nat → Int32} (ok : P.ok) {r le q k : Nat} (hr : r < P.R) : (q = P.pd r 0 ∧ ∃ σ, P.bso r le fa la σ ∧ k = P.nu r 0 σ) ↔ P.told r le fa la q k := by
  constructor
  · rintro ⟨h1, σ, h2, h3⟩
    exact ⟨h1, σ, h2.1, fun i i1 i2 => (sob_so ok hr i1 i2 h2.1).mp (h2.2 i i1 i2), h3⟩
  · rintro ⟨h1, σ, h2, h3, h4⟩
    exact ⟨h1, σ, ⟨h2, fun i i1 i2 => (sob_so ok hr i1 i2 h2).mpr (h3 i i1 i2)⟩, h4⟩
theorem S_collectE {fa fac fr frc la lac : Nat → Int32} (ok : P.ok) (sf : P.safe) (hc : PC P s kind who width term start) (hF : 13 < F) {r le : Nat} (hr : r < P.R) (hle : le ≤ P.K r) (hk1 : le ≠ 0 → P.kd r le = 1) {x : Int32} (hx : x = if le = 0 then -1 else nI (s r + le)) {value plan : Nat → Int32} {planned x1 x2 x3 cnt sol : Int32} (hv : VV value (fun _ => 0)) (oa : FSok fa fac) (of : FSok fr frc) (ol : FSok la lac) : ∃ plan' planned' y1 y2 y3 cnt' sol' fr' frc', M_Search_collect F value plan planned x1 x2 x3 cnt sol fa fac fr frc la lac kind who width term start (nI r) x = some (value, plan', planned', y1, y2, y3, cnt', sol', fr', frc') ∧ FSok fr' frc' ∧ ∀ q k, k < 1728 → (fh fr' q k = true ↔ (fh fr q k = true ∨ (fh fa q k = false ∧ P.told r le fa la q k))) := by
  subst hx
  obtain ⟨plan', planned', y1, y2, cnt', sol', fr', frc', e, o, h⟩ := S_collect (F := F) (plan := plan) (planned := planned) (x1 := x1) (x2 := x2) (x3 := x3) (cnt := cnt) (sol := sol) ok sf hc hF hr hle hk1 hv oa of ol
  refine ⟨plan', planned', y1, y2, _, cnt', sol', fr', frc', e, o, fun q k hk => (h q k hk).trans ?_⟩
  rw [← bso_told ok hr]
  constructor
  · rintro (z | ⟨z1, z2, z3⟩)
    · exact Or.inl z
    · exact Or.inr ⟨z2, z1, z3⟩
  · rintro (z | ⟨z1, z2, z3⟩)
    · exact Or.inl z
    · exact Or.inr ⟨z2, z1, z3⟩
theorem S_isHeadM (ok : P.ok) (hc : PC P s kind who width term start) {m : Int32} {r : Nat} (hr : r < P.R) : M_Deducer_isHeadAmong who start m (nI r) = some (bI (bt m (P.pd r 0))) := by
  have k0 := (ok.2 r hr).2.1
  have p10 := ((ok.2 r hr).2.2 0 (Nat.zero_le _)).2.2.2.2.1 (by omega)
  have r16 := ok.1
  obtain ⟨e1, e2, h240, e⟩ := hc r hr
  exact S_isHead (show r < 241 by omega) (show s r < 240 by omega) p10 e1 ((e 0 (Nat.zero_le _)).2.1 (by omega))
theorem S_fill2 {fa fac la lac : Nat → Int32} (ok : P.ok) (sf : P.safe) (hc : PC P s kind who width term start) (hF : 13 < F) {value : Nat → Int32} {m : Int32} (hv : VV value (fun _ => 0)) (oa : FSok fa fac) (ol : FSok la lac) : ∀ (d j n : Nat) (plan fr frc : Nat → Int32) (x1 x2 x3 x4 x5 x6 : Int32), j + d = P.R → d < n → FSok fr frc → ∃ plan' y1 y2 y3 y4 y5 y6 fr' frc', M_Deducer_fillStratum_L2 F fa fac la lac kind who width term start (nI P.R) m n (nI j) value plan x1 x2 x3 x4 x5 x6 fr frc = some (value, plan', y1, y2, y3, y4, y5, y6, fr', frc') ∧ FSok fr' frc' ∧ ∀ q k, k < 1728 → (fh fr' q k = true ↔ (fh fr q k = true ∨ (fh fa q k = false ∧ ∃ r, j ≤ r ∧ r < P.R ∧ bt m (P.pd r 0) = true ∧ P.told r 0 fa la q k)))
  | 0, j, n, plan, fr, frc, x1, x2, x3, x4, x5, x6, hj, hn, of => by
    obtain ⟨n, rfl⟩ : ∃ m, n = m + 1 := ⟨n - 1, by omega⟩
    have r16 := ok.1
    unfold M_Deducer_fillStratum_L2
    rw [if_pos (nI_le (by omega) (by omega))]
    refine ⟨_, _, _, _, _, _, _, _, _, rfl, of, fun q k hk => ⟨fun z => Or.inl z, fun z => z.elim id (fun ⟨_, r, h1, h2, _⟩ => by omega)⟩⟩
  | d + 1, j, n, plan, fr, frc, x1, x2, x3, x4, x5, x6, hj, hn, of => by
    obtain ⟨n, rfl⟩ : ∃ m, n = m + 1 := ⟨n - 1, by omega⟩
    have r16 := ok.1
    have hjR : j < P.R := by omega
    unfold M_Deducer_fillStratum_L2
    rw [if_neg (nI_ge (a := j) (b := P.R) hjR (by omega)), bd_e _ (S_isHeadM ok hc hjR)]
    cases hb : bt m (P.pd j 0) with
    | false =>
      rw [if_pos bI_f, lt_e, nI_1]
      obtain ⟨plan', y1, y2, y3, y4, y5, y6, fr', frc', e, o, h⟩ := S_fill2 ok sf hc hF hv oa ol d (j + 1) n plan fr frc x1 x2 x3 x4 x5 x6 (by omega) (by omega) of
      refine ⟨plan', y1, y2, y3, y4, y5, y6, fr', frc', e, o, fun q k hk => (h q k hk).trans ?_⟩
      constructor
      · rintro (z | ⟨z, r, z1, z2, z3, z4⟩)
        · exact Or.inl z
        · exact Or.inr ⟨z, r, by omega, z2, z3, z4⟩
      · rintro (z | ⟨z, r, z1, z2, z3, z4⟩)
        · exact Or.inl z
        · have : r ≠ j := fun w => by rw [w, hb] at z3; exact absurd z3 (by decide)
          exact Or.inr ⟨z, r, by omega, z2, z3, z4⟩
    | true =>
      obtain ⟨p1, a1, a2, a3, a4, a5, a6, fr1, frc1, e1, o1, h1⟩ := S_collectE (F := F) (fa := fa) (la := la) (le := 0) (x := -1) (plan := plan) (planned := x1) (x1 := x2) (x2 := x3) (x3 := x4) (cnt := x5) (sol := x6) ok sf hc hF hjR (Nat.zero_le _) (fun z => absurd rfl z) rfl hv oa of ol
      obtain ⟨plan', y1, y2, y3, y4, y5, y6, fr', frc', e, o, h⟩ := S_fill2 ok sf hc hF hv oa ol d (j + 1) n p1 fr1 frc1 a1 a2 a3 a4 a5 a6 (by omega) (by omega) o1
      rw [if_neg bI_t, bd_e _ e1, lt_e, nI_1]
      refine ⟨plan', y1, y2, y3, y4, y5, y6, fr', frc', e, o, fun q k hk => (h q k hk).trans ?_⟩
      rw [h1 q k hk]
      constructor
      · rintro ((z | ⟨z, y⟩) | ⟨z, r, z1, z2, z3, z4⟩)
        · exact Or.inl z
        · exact Or.inr ⟨z, j, Nat.le_refl j, hjR, hb, y⟩
        · exact Or.inr ⟨z, r, by omega, z2, z3, z4⟩
      · rintro (z | ⟨z, r, z1, z2, z3, z4⟩)
        · exact Or.inl (Or.inl z)
        · by_cases w : r = j
          · subst w; exact Or.inl (Or.inr ⟨z, z4⟩)
          · exact Or.inr ⟨z, r, by omega, z2, z3, z4⟩
/-- one rule from the latest facts -/
theorem S_cfl_L {fa fac la lac : Nat → Int32} (ok : P.ok) (sf : P.safe) (hc : PC P s kind who width term start) (hF : 13 < F) {value : Nat → Int32} {m : Int32} (hv : VV value (fun _ => 0)) (oa : FSok fa fac) (ol : FSok la lac) {r : Nat} (hr : r < P.R) : ∀ (d j n : Nat) (plan fr frc : Nat → Int32) (x1 x2 x3 x4 x5 x6 : Int32), j + d = P.K r + 1 → 1 ≤ j → d < n → FSok fr frc → ∃ plan' y1 y2 y3 y4 y5 y6 fr' frc', M_Deducer_collectFromLatest_L12 F fa fac la lac kind who width term start m (nI r) n (nI (s r + j)) value plan x1 x2 x3 x4 x5 x6 fr frc = some (value, plan', y1, y2, y3, y4, y5, y6, fr', frc') ∧ FSok fr' frc' ∧ ∀ q k, k < 1728 → (fh fr' q k = true ↔ (fh fr q k = true ∨ (fh fa q k = false ∧ ∃ i, j ≤ i ∧ i ≤ P.K r ∧ P.kd r i = 1 ∧ bt m (P.pd r i) = true ∧ P.told r i fa la q k)))
  | 0, j, n, plan, fr, frc, x1, x2, x3, x4, x5, x6, hj, h1j, hn, of => by
    obtain ⟨n, rfl⟩ : ∃ m, n = m + 1 := ⟨n - 1, by omega⟩
    have r16 := ok.1
    obtain ⟨e1, e2, h240, e⟩ := hc r hr
    unfold M_Deducer_collectFromLatest_L12
    rw [nI_1, gd_n _ (show r + 1 < 241 by omega) (by decide), lt_e, nI_clamp (show r + 1 < 2 ^ 31 by omega), e2, if_pos (nI_le (by omega) (by omega))]
    refine ⟨_, _, _, _, _, _, _, _, _, rfl, of, fun q k hk => ⟨fun z => Or.inl z, fun z => z.elim id (fun ⟨_, i, h1, h2, _⟩ => by omega)⟩⟩
  | d + 1, j, n, plan, fr, frc, x1, x2, x3, x4, x5, x6, hj, h1j, hn, of => by
    obtain ⟨n, rfl⟩ : ∃ m, n = m + 1 := ⟨n - 1, by omega⟩
    have r16 := ok.1
    obtain ⟨e1, e2, h240, e⟩ := hc r hr
    obtain ⟨ek, ew, ewd, et⟩ := e j (by omega)
    obtain ⟨k5, k1, w3, w2, p10, t38⟩ := (ok.2 r hr).2.2 j (by omega)
    have skip : ¬ (P.kd r j = 1 ∧ bt m (P.pd r j) = true) → ∃ plan' y1 y2 y3 y4 y5 y6 fr' frc', M_Deducer_collectFromLatest_L12 F fa fac la lac kind who width term start m (nI r) n (nI (s r + (j + 1))) value plan x1 x2 x3 x4 x5 x6 fr frc = some (value, plan', y1, y2, y3, y4, y5, y6, fr', frc') ∧ FSok fr' frc' ∧ ∀ q k, k < 1728 → (fh fr' q k = true ↔ (fh fr q k = true ∨ (fh fa q k = false ∧ ∃ i, j ≤ i ∧ i ≤ P.K r ∧ P.kd r i = 1 ∧ bt m (P.pd r i) = true ∧ P.told r i fa la q k))) := fun hno => by
      obtain ⟨plan', y1, y2, y3, y4, y5, y6, fr', frc', e, o, h⟩ := S_cfl_L ok sf hc hF hv oa ol hr d (j + 1) n plan fr frc x1 x2 x3 x4 x5 x6 (by omega) (by omega) (by omega) of
      refine ⟨plan', y1, y2, y3, y4, y5, y6, fr', frc', e, o, fun q k hk => (h q k hk).trans ?_⟩
      constructor
      · rintro (z | ⟨z, i, z1, z2, z3, z4, z5⟩)
        · exact Or.inl z
        · exact Or.inr ⟨z, i, by omega, z2, z3, z4, z5⟩
      · rintro (z | ⟨z, i, z1, z2, z3, z4, z5⟩)
        · exact Or.inl z
        · have : i ≠ j := fun w => hno (by rw [← w]; exact ⟨z3, z4⟩)
          exact Or.inr ⟨z, i, by omega, z2, z3, z4, z5⟩
    unfold M_Deducer_collectFromLatest_L12
    rw [nI_1 r, gd_n _ (show r + 1 < 241 by omega) (by decide), lt_e, nI_clamp (show r + 1 < 2 ^ 31 by omega), e2, if_neg (nI_ge (a := s r + j) (b := s r + P.K r + 1) (by omega) (by omega)), gd_n _ (show s r + j < 240 by omega) (by decide), nI_clamp (show s r + j < 2 ^ 31 by omega), ek]
    by_cases c1 : P.kd r j = 1
    · have p10 := p10 (by omega)
      rw [if_pos (show nI (P.kd r j) = (1 : Int32) by rw [c1]; rfl), gd_n _ (show s r + j < 240 by omega) (by decide), lt_e, ew (by omega)]
      cases hb : bt m (P.pd r j) with
      | false =>
        rw [if_pos ((bt_ask m (by omega)).mpr hb), lt_e, nI_1]
        exact skip (fun z => by rw [hb] at z; exact absurd z.2 (by decide))
      | true =>
        obtain ⟨p1, a1, a2, a3, a4, a5, a6, fr1, frc1, f1, o1, h1⟩ := S_collectE (F := F) (fa := fa) (la := la) (le := j) (x := nI (s r + j)) (plan := plan) (planned := x1) (x1 := x2) (x2 := x3) (x3 := x4) (cnt := x5) (sol := x6) ok sf hc hF hr (by omega) (fun _ => c1) (if_neg (by omega)).symm hv oa of ol
        obtain ⟨plan', y1, y2, y3, y4, y5, y6, fr', frc', e, o, h⟩ := S_cfl_L ok sf hc hF hv oa ol hr d (j + 1) n p1 fr1 frc1 a1 a2 a3 a4 a5 a6 (by omega) (by omega) (by omega) o1
        rw [if_neg (fun z => by have := (bt_ask m (show P.pd r j < 32 by omega)).mp z; rw [hb] at this; exact absurd this (by decide)), bd_e _ f1, lt_e, nI_1]
        refine ⟨plan', y1, y2, y3, y4, y5, y6, fr', frc', e, o, fun q k hk => (h q k hk).trans ?_⟩
        rw [h1 q k hk]
        constructor
        · rintro ((z | ⟨z, y⟩) | ⟨z, i, z1, z2, z3, z4, z5⟩)
          · exact Or.inl z
          · exact Or.inr ⟨z, j, Nat.le_refl j, by omega, c1, hb, y⟩
          · exact Or.inr ⟨z, i, by omega, z2, z3, z4, z5⟩
        · rintro (z | ⟨z, i, z1, z2, z3, z4, z5⟩)
          · exact Or.inl (Or.inl z)
          · by_cases w : i = j
            · subst w; exact Or.inl (Or.inr ⟨z, z5⟩)
            · exact Or.inr ⟨z, i, by omega, z2, z3, z4, z5⟩
    · rw [if_neg (show ¬ nI (P.kd r j) = (1 : Int32) from fun z => c1 ((nI_eq (a := P.kd r j) (b := 1) (by omega) (by decide)).mp z)), lt_e, nI_1]
      exact skip (fun z => c1 z.1)
theorem S_cfl {fa fac la lac : Nat → Int32} (ok : P.ok) (sf : P.safe) (hc : PC P s kind who width term start) (hF : 13 < F) {value : Nat → Int32} {m : Int32} (hv : VV value (fun _ => 0)) (oa : FSok fa fac) (ol : FSok la lac) {r : Nat} (hr : r < P.R) {plan fr frc : Nat → Int32} {x1 x2 x3 x4 x5 x6 : Int32} (of : FSok fr frc) : ∃ plan' y1 y2 y3 y4 y5 y6 fr' frc', M_Deducer_collectFromLatest F value plan x1 x2 x3 x4 x5 x6 fa fac fr frc la lac kind who width term start m (nI r) = some (value, plan', y1, y2, y3, y4, y5, y6, fr', frc') ∧ FSok fr' frc' ∧ ∀ q k, k < 1728 → (fh fr' q k = true ↔ (fh fr q k = true ∨ (fh fa q k = false ∧ ∃ i, 1 ≤ i ∧ i ≤ P.K r ∧ P.kd r i = 1 ∧ bt m (P.pd r i) = true ∧ P.told r i fa la q k))) := by
  have r16 := ok.1
  have h5 := (ok.2 r hr).1
  obtain ⟨e1, e2, h240, e⟩ := hc r hr
  obtain ⟨plan', y1, y2, y3, y4, y5, y6, fr', frc', e, o, h⟩ := S_cfl_L (F := F) (m := m) ok sf hc hF hv oa ol hr (P.K r) 1 F plan fr frc x1 x2 x3 x4 x5 x6 (by omega) (Nat.le_refl 1) (by omega) of
  unfold M_Deducer_collectFromLatest
  rw [gd_n _ (show r < 241 by omega) (by decide), lt_e, nI_clamp (show r < 2 ^ 31 by omega), e1, nI_1, bd_e _ e]
  exact ⟨_, _, _, _, _, _, _, _, _, rfl, o, h⟩
theorem S_fill56 {fa fac la lac : Nat → Int32} (ok : P.ok) (sf : P.safe) (hc : PC P s kind who width term start) (hF : 13 < F) {value : Nat → Int32} {m : Int32} (hv : VV value (fun _ => 0)) (oa : FSok fa fac) (ol : FSok la lac) : ∀ (d j n : Nat) (plan fr frc : Nat → Int32) (x1 x2 x3 x4 x5 x6 : Int32), j + d = P.R → d < n → FSok fr frc → ∃ plan' y1 y2 y3 y4 y5 y6 fr' frc', M_Deducer_fillStratum_L56 F fa fac la lac kind who width term start (nI P.R) m n (nI j) value plan x1 x2 x3 x4 x5 x6 fr frc = some (value, plan', y1, y2, y3, y4, y5, y6, fr', frc') ∧ FSok fr' frc' ∧ ∀ q k, k < 1728 → (fh fr' q k = true ↔ (fh fr q k = true ∨ (fh fa q k = false ∧ ∃ r i, j ≤ r ∧ r < P.R ∧ bt m (P.pd r 0) = true ∧ 1 ≤ i ∧ i ≤ P.K r ∧ P.kd r i = 1 ∧ bt m (P.pd r i) = true ∧ P.told r i fa la q k)))
  | 0, j, n, plan, fr, frc, x1, x2, x3, x4, x5, x6, hj, hn, of => by
    obtain ⟨n, rfl⟩ : ∃ m, n = m + 1 := ⟨n - 1, by omega⟩
    have r16 := ok.1
    unfold M_Deducer_fillStratum_L56
    rw [if_pos (nI_le (by omega) (by omega))]
    refine ⟨_, _, _, _, _, _, _, _, _, rfl, of, fun q k hk => ⟨fun z => Or.inl z, fun z => z.elim id (fun ⟨_, r, i, h1, h2, _⟩ => by omega)⟩⟩
  | d + 1, j, n, plan, fr, frc, x1, x2, x3, x4, x5, x6, hj, hn, of => by
    obtain ⟨n, rfl⟩ : ∃ m, n = m + 1 := ⟨n - 1, by omega⟩
    have r16 := ok.1
    have hjR : j < P.R := by omega
    unfold M_Deducer_fillStratum_L56
    rw [if_neg (nI_ge (a := j) (b := P.R) hjR (by omega)), bd_e _ (S_isHeadM ok hc hjR)]
    cases hb : bt m (P.pd j 0) with
    | false =>
      rw [if_pos bI_f, lt_e, nI_1]
      obtain ⟨plan', y1, y2, y3, y4, y5, y6, fr', frc', e, o, h⟩ := S_fill56 ok sf hc hF hv oa ol d (j + 1) n plan fr frc x1 x2 x3 x4 x5 x6 (by omega) (by omega) of
      refine ⟨plan', y1, y2, y3, y4, y5, y6, fr', frc', e, o, fun q k hk => (h q k hk).trans ?_⟩
      constructor
      · rintro (z | ⟨z, r, i, z1, z2, z3, z4⟩)
        · exact Or.inl z
        · exact Or.inr ⟨z, r, i, by omega, z2, z3, z4⟩
      · rintro (z | ⟨z, r, i, z1, z2, z3, z4⟩)
        · exact Or.inl z
        · have : r ≠ j := fun w => by rw [w, hb] at z3; exact absurd z3 (by decide)
          exact Or.inr ⟨z, r, i, by omega, z2, z3, z4⟩
    | true =>
      obtain ⟨p1, a1, a2, a3, a4, a5, a6, fr1, frc1, e1, o1, h1⟩ := S_cfl (F := F) (m := m) (plan := plan) (x1 := x1) (x2 := x2) (x3 := x3) (x4 := x4) (x5 := x5) (x6 := x6) ok sf hc hF hv oa ol hjR of
      obtain ⟨plan', y1, y2, y3, y4, y5, y6, fr', frc', e, o, h⟩ := S_fill56 ok sf hc hF hv oa ol d (j + 1) n p1 fr1 frc1 a1 a2 a3 a4 a5 a6 (by omega) (by omega) o1
      rw [if_neg bI_t, bd_e _ e1, lt_e, nI_1]
      refine ⟨plan', y1, y2, y3, y4, y5, y6, fr', frc', e, o, fun q k hk => (h q k hk).trans ?_⟩
      rw [h1 q k hk]
      constructor
      · rintro ((z | ⟨z, i, y⟩) | ⟨z, r, i, z1, z2, z3, z4⟩)
        · exact Or.inl z
        · exact Or.inr ⟨z, j, i, Nat.le_refl j, hjR, hb, y⟩
        · exact Or.inr ⟨z, r, i, by omega, z2, z3, z4⟩
      · rintro (z | ⟨z, r, i, z1, z2, z3, z4⟩)
        · exact Or.inl (Or.inl z)
        · by_cases w : r = j
          · subst w; exact Or.inl (Or.inr ⟨z, i, z4⟩)
          · exact Or.inr ⟨z, r, i, by omega, z2, z3, z4⟩
end
