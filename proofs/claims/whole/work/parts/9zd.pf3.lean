/-! faults 3 and 4 -/
theorem bt_ask1 (x : Int32) {i : Nat} (hi : i < 32) : ((x >>> (nI i &&& 31)) &&& (1 : Int32)) = 1 ↔ bt x i = true := by
  have h0 := bt_ask x hi
  constructor
  · intro h
    cases hb : bt x i with
    | true => rfl
    | false => rw [h0.mpr hb] at h; exact absurd h (by decide)
  · intro h
    refine b_ext (fun j hj => ?_)
    have one : ∀ j, j < 32 → bt (1 : Int32) j = decide (j = 0) := by decide +kernel
    rw [b_and, one j hj]
    by_cases c : j = 0
    · subst c
      rw [b_sshr i hi x (by decide), if_pos (by omega)]
      simp [h]
    · simp [c]
/-- letter L stands in one of d entries from e on -/
def rlb (X : Nat → En) : Nat → Nat → Nat → Bool
  | 0, _, _ => false
  | d + 1, e, L => lett (X e).tm (X e).wd L || rlb X d (e + 1) L
theorem rlb_iff {X : Nat → En} {L : Nat} : ∀ {d e : Nat}, rlb X d e L = true ↔ ∃ x, e ≤ x ∧ x < e + d ∧ lett (X x).tm (X x).wd L = true
  | 0, e => ⟨fun h => absurd (show false = true from h) (by decide), fun ⟨x, h1, h2, _⟩ => by omega⟩
  | d + 1, e => by
    show (lett (X e).tm (X e).wd L || rlb X d (e + 1) L) = true ↔ _
    rw [Bool.or_eq_true, rlb_iff]
    constructor
    · rintro (h | ⟨x, h1, h2, h3⟩)
      · exact ⟨e, Nat.le_refl e, by omega, h⟩
      · exact ⟨x, by omega, by omega, h3⟩
    · rintro ⟨x, h1, h2, h3⟩
      by_cases c : x = e
      · subst c; exact Or.inl h3
      · exact Or.inr ⟨x, by omega, by omega, h3⟩
/-- how many letters a rule has -/
def nvr (X : Nat → En) (s : Nat → Nat) (r : Nat) : Nat := ct (rlb X (s (r + 1) - s r) (s r)) 32
theorem tw_dec {X : Nat → En} {k : Nat} : ∀ {n : Nat}, k < tw_ X n → ∃ e, e < n ∧ ∃ t, t < (X e).wd ∧ k = tw_ X e + t
  | 0, h => absurd h (Nat.not_lt_zero _)
  | n + 1, h => by
    by_cases c : k < tw_ X n
    · obtain ⟨e, h1, h2⟩ := tw_dec c
      exact ⟨e, by omega, h2⟩
    · have h : k < tw_ X n + (X n).wd := h
      exact ⟨n, by omega, k - tw_ X n, by omega, by omega⟩
/-- flat term k is letter L -/
def flt (mterm : Nat → Int32) (a k L : Nat) : Prop := ∃ x, a ≤ x ∧ x < k ∧ mterm x = nI (100 + L)
theorem mtv_lt {v : Nat} (h : v < 38) : mtv v < 126 ∧ (mtv v < 100 ↔ v < 12) := by
  unfold mtv
  split <;> omega
section
variable {F : Nat} {X : Nat → En} {s : Nat → Nat} {R n : Nat} {kind place who width term start firstPart partMany rulePlace sort predicate firstTerm termMany partPlace mterm : Nat → Int32}
theorem SE.flat (h : SE X n kind place who width term sort predicate firstTerm termMany partPlace mterm) {k : Nat} (hk : k < tw_ X n) : ∃ v, v < 38 ∧ mterm k = nI (mtv v) := by
  obtain ⟨e, he, t, ht, rfl⟩ := tw_dec hk
  obtain ⟨a, b, c⟩ := h e he
  exact ⟨(X e).tm t, a.2.2.2.2.1 t ht, c.2.2.2.2.2 t ht⟩
theorem SE.flt (h : SE X n kind place who width term sort predicate firstTerm termMany partPlace mterm) {a b L : Nat} (hb : b ≤ n) (hL : L < 100) : flt mterm (tw_ X a) (tw_ X b) L ↔ ∃ x, a ≤ x ∧ x < b ∧ lett (X x).tm (X x).wd L = true := by
  constructor
  · rintro ⟨k, h1, h2, h3⟩
    obtain ⟨e, he, t, ht, rfl⟩ := tw_dec h2
    obtain ⟨g, -, c⟩ := h e (by omega)
    have hv := g.2.2.2.2.1 t ht
    rw [c.2.2.2.2.2 t ht] at h3
    have h4 := mtv_lt hv
    have h5 := (nI_eq (by omega) (by omega)).mp h3
    refine ⟨e, ?_, he, lett_iff.mpr ⟨t, ht, ?_⟩⟩
    · refine Classical.byContradiction (fun z => ?_)
      have := tw_end (X := X) (show e < a by omega)
      omega
    · unfold mtv at h5
      split at h5 <;> omega
  · rintro ⟨e, h1, h2, h3⟩
    obtain ⟨t, ht, h4⟩ := lett_iff.mp h3
    obtain ⟨g, -, c⟩ := h e (by omega)
    have m1 := tw_mono (X := X) h1
    have m2 := tw_end (X := X) h2
    refine ⟨tw_ X e + t, by omega, by omega, ?_⟩
    rw [c.2.2.2.2.2 t ht, h4]
    unfold mtv
    rw [if_neg (by omega)]
    exact congrArg nI (by omega)
theorem S_var_L (h : SE X n kind place who width term sort predicate firstTerm termMany partPlace mterm) (hn : n ≤ 240) (h480 : tw_ X n ≤ 480) {l a : Nat} (hl : l < n) : ∀ (d k f : Nat) (seen : Int32), k + d = tw_ X (l + 1) → d < f → (∀ L, L < 32 → (bt seen L = true ↔ flt mterm a k L)) → a ≤ k → ∃ seen', M_Model_variables_L36 F firstTerm termMany mterm (nI l) f (nI k) (nI (ct (bt seen) 32)) seen = some (nI (ct (bt seen') 32)) ∧ ∀ L, L < 32 → (bt seen' L = true ↔ flt mterm a (tw_ X (l + 1)) L)
  | 0, k, f, seen, hk, hf, hs, ha => by
    obtain ⟨f, rfl⟩ : ∃ m, f = m + 1 := ⟨f - 1, by omega⟩
    obtain ⟨g, -, c⟩ := h l hl
    have e1 : nI (tw_ X l) + nI (X l).wd = nI (tw_ X (l + 1)) := by rw [nI_add]; rfl
    have m1 := tw_mono (X := X) (show l + 1 ≤ n from hl)
    have : k = tw_ X (l + 1) := by omega
    subst this
    refine ⟨seen, ?_, hs⟩
    unfold M_Model_variables_L36
    rw [gd_n _ (show l < 260 by omega) (by decide), gd_n _ (show l < 260 by omega) (by decide), lt_e, nI_clamp (show l < 2 ^ 31 by omega), c.2.2.1, c.2.2.2.1, e1, if_pos (nI_le (Nat.le_refl _) (by omega))]
  | d + 1, k, f, seen, hk, hf, hs, ha => by
    obtain ⟨f, rfl⟩ : ∃ m, f = m + 1 := ⟨f - 1, by omega⟩
    obtain ⟨g, -, c⟩ := h l hl
    have e1 : nI (tw_ X l) + nI (X l).wd = nI (tw_ X (l + 1)) := by rw [nI_add]; rfl
    have m1 := tw_mono (X := X) (show l + 1 ≤ n from hl)
    obtain ⟨v, hv, ev⟩ := h.flat (show k < tw_ X n by omega)
    have hmv := mtv_lt hv
    unfold M_Model_variables_L36
    rw [gd_n _ (show l < 260 by omega) (by decide), gd_n _ (show l < 260 by omega) (by decide), lt_e, nI_clamp (show l < 2 ^ 31 by omega), c.2.2.1, c.2.2.2.1, e1, if_neg (nI_ge (a := k) (b := tw_ X (l + 1)) (by omega) (by omega)), gd_n _ (show k < 480 by omega) (by decide), nI_clamp (show k < 2 ^ 31 by omega), ev]
    have flt1 : ∀ L, L < 32 → (flt mterm a (k + 1) L ↔ (flt mterm a k L ∨ mtv v = 100 + L)) := fun L hL => by
      constructor
      · rintro ⟨x, x1, x2, x3⟩
        by_cases cx : x = k
        · subst cx
          rw [ev] at x3
          exact Or.inr ((nI_eq (by omega) (by omega)).mp x3)
        · exact Or.inl ⟨x, x1, by omega, x3⟩
      · rintro (⟨x, x1, x2, x3⟩ | z)
        · exact ⟨x, x1, by omega, x3⟩
        · exact ⟨k, ha, by omega, by rw [ev, z]⟩
    by_cases c12 : v < 12
    · rw [if_pos (show nI (mtv v) < (100 : Int32) from nI_lt (b := 100) (hmv.2.mpr c12) (by decide)), lt_e, nI_1]
      refine S_var_L h hn h480 hl d (k + 1) f seen (by omega) (by omega) (fun L hL => (hs L hL).trans ?_) (by omega)
      rw [flt1 L hL]
      exact ⟨Or.inl, fun z => z.elim id (fun y => by have := hmv.2.mpr c12; omega)⟩
    · have em : mtv v = 100 + (v - 12) := by unfold mtv; rw [if_neg c12]; omega
      have es : nI (mtv v) - (100 : Int32) = nI (v - 12) := by
        rw [em]
        refine (pk_sub (b := 100) (by omega)).trans (congrArg nI (by omega))
      rw [if_neg (show ¬ nI (mtv v) < (100 : Int32) from nI_nlt (b := 100) (by omega) (by omega)), gd_n _ (show k < 480 by omega) (by decide), lt_e, es]
      cases hb : bt seen (v - 12) with
      | true =>
        rw [if_pos ((bt_ask1 seen (by omega)).mpr hb), lt_e, nI_1]
        refine S_var_L h hn h480 hl d (k + 1) f seen (by omega) (by omega) (fun L hL => (hs L hL).trans ?_) (by omega)
        rw [flt1 L hL]
        refine ⟨Or.inl, fun z => z.elim id (fun y => ?_)⟩
        have : L = v - 12 := by omega
        rw [this]
        exact (hs _ (by omega)).mp hb
      | false =>
        have hct : ct (bt (seen ||| ((1 : Int32) <<< (nI (v - 12) &&& 31)))) 32 = ct (bt seen) 32 + 1 := by
          have h32 : ∀ j, 32 ≤ j → bt (seen ||| ((1 : Int32) <<< (nI (v - 12) &&& 31))) j = bt seen j := fun j hj => by rw [b_big hj, b_big hj]
          refine ct_one (k := v - 12) hb ?_ (fun j hj => ?_) (by omega)
          · rw [b_or, bt_one _ (by omega) _ (by omega)]; simp
          · by_cases cj : j < 32
            · rw [b_or, bt_one _ (by omega) j cj]; simp [hj]
            · exact h32 j (by omega)
        rw [if_neg (fun z => by rw [(bt_ask1 seen (by omega)).mp z] at hb; exact absurd hb (by decide)), gd_n _ (show k < 480 by omega) (by decide), lt_e, lt_e, lt_e, lt_e, nI_1, nI_1, ← hct]
        refine S_var_L h hn h480 hl d (k + 1) f _ (by omega) (by omega) (fun L hL => ?_) (by omega)
        rw [b_or, Bool.or_eq_true, bt_one _ (by omega) L hL, decide_eq_true_iff, hs L hL, flt1 L hL]
        refine or_congr Iff.rfl ?_
        omega
/-- the reference counts a rule's letters -/
theorem S_variables (h : ST X s R n kind place who width term start firstPart partMany rulePlace sort predicate firstTerm termMany partPlace mterm) (hn : n ≤ 240) (h480 : tw_ X n ≤ 480) (hF : 480 < F) {r : Nat} (hr : r < R) : M_Model_variables F firstPart partMany firstTerm termMany mterm (nI r) = some (nI (nvr X s r)) := by
  have e1 := h.fp hr
  have hR := h.2.2.2.1
  have e2 := (h.st (show r + 1 ≤ R by omega)).2
  obtain ⟨b1, -⟩ := h.2.2.2.2.2 r hr
  obtain ⟨g, -, c⟩ := h.1 (s r) (by omega)
  have m1 := tw_mono (X := X) (show s r ≤ s (r + 1) by omega)
  have m2 := tw_mono (X := X) e2
  have hl : s (r + 1) - 1 + 1 = s (r + 1) := by omega
  obtain ⟨seen, k1, k2⟩ := S_var_L (F := F) (a := tw_ X (s r)) h.1 hn h480 (l := s (r + 1) - 1) (by omega) (tw_ X (s (r + 1)) - tw_ X (s r)) (tw_ X (s r)) F 0 (by rw [hl]; omega) (by omega) (fun L _ => ⟨fun z => by rw [b_0] at z; exact absurd z (by decide), fun ⟨x, x1, x2, _⟩ => by omega⟩) (Nat.le_refl _)
  have c0 : ct (bt (0 : Int32)) 32 = 0 := by
    rw [ct_congr (g := fun _ => false) (fun m _ => b_0 m)]
    exact ct_false 32
  rw [c0] at k1
  have k1 : M_Model_variables_L36 F firstTerm termMany mterm (nI (s (r + 1) - 1)) F (nI (tw_ X (s r))) (0 : Int32) (0 : Int32) = _ := k1
  have ec : ct (bt seen) 32 = nvr X s r := by
    refine ct_congr (fun L hL => ?_)
    have h0 := k2 L hL
    rw [hl] at h0
    have h1 := h0.trans (h.1.flt (a := s r) (b := s (r + 1)) e2 (by omega))
    have h2 := rlb_iff (X := X) (L := L) (d := s (r + 1) - s r) (e := s r)
    rw [show s r + (s (r + 1) - s r) = s (r + 1) by omega] at h2
    cases hb : bt seen L with
    | true => exact (h2.mpr (h1.mp hb)).symm
    | false =>
      cases hc : rlb X (s (r + 1) - s r) (s r) L with
      | false => rfl
      | true => rw [h1.mpr (h2.mp hc)] at hb; exact absurd hb (by decide)
  unfold M_Model_variables
  rw [gd_n _ (show r < 250 by omega) (by decide), nI_clamp (show r < 2 ^ 31 by omega), e1.2, e1.1, gd_n _ (show s r < 260 by omega) (by decide), lt_e, nI_clamp (show s r < 2 ^ 31 by omega), c.2.2.1, gd_n _ (show r < 250 by omega) (by decide), gd_n _ (show r < 250 by omega) (by decide), lt_e]
  rw [ec] at k1
  exact bd_e (fun z11 => some z11) k1
theorem S_varsX (h : SE X n kind place who width term sort predicate firstTerm termMany partPlace mterm) (hn : n ≤ 240) (hF : 3 < F) {e : Nat} (he : e < n) : ∃ m, M_Program_variables F width term (nI e) = some m ∧ ∀ b, b < 32 → bt m b = lett (X e).tm (X e).wd b := by
  obtain ⟨a, b, -⟩ := h e he
  exact S_vars (show e < 240 by omega) a.2.1 b.2.2.1 (fun t ht => ⟨b.2.2.2.2 t ht, a.2.2.2.2.1 t ht⟩) hF
theorem S_tl_L (h : ST X s R n kind place who width term start firstPart partMany rulePlace sort predicate firstTerm termMany partPlace mterm) (hn : n ≤ 240) (hF : 480 < F) {r : Nat} (hr : r < R) : ∀ (d e f : Nat) (m : Int32), e + d = s (r + 1) → d < f → ∃ m', M_Inspector_isTooLarge_L9 F width term start (nI r) f (nI e) m = some m' ∧ ∀ b, b < 32 → bt m' b = (bt m b || rlb X d e b)
  | 0, e, f, m, he, hf => by
    obtain ⟨f, rfl⟩ : ∃ m, f = m + 1 := ⟨f - 1, by omega⟩
    have e1 := h.st (show r + 1 ≤ R by omega)
    have hR := h.2.2.2.1
    unfold M_Inspector_isTooLarge_L9
    rw [nI_1, gd_n _ (show r + 1 < 241 by omega) (by decide), lt_e, nI_clamp (show r + 1 < 2 ^ 31 by omega), e1.1, if_pos (nI_le (by omega) (by omega))]
    exact ⟨m, rfl, fun b _ => (Bool.or_false _).symm⟩
  | d + 1, e, f, m, he, hf => by
    obtain ⟨f, rfl⟩ : ∃ m, f = m + 1 := ⟨f - 1, by omega⟩
    have e1 := h.st (show r + 1 ≤ R by omega)
    have hR := h.2.2.2.1
    obtain ⟨mk, g1, g2⟩ := S_varsX (F := F) h.1 hn (by omega) (show e < n by omega)
    obtain ⟨m', k1, k2⟩ := S_tl_L h hn hF hr d (e + 1) f (m ||| mk) (by omega) (by omega)
    unfold M_Inspector_isTooLarge_L9
    rw [nI_1 r, gd_n _ (show r + 1 < 241 by omega) (by decide), lt_e, nI_clamp (show r + 1 < 2 ^ 31 by omega), e1.1, if_neg (nI_ge (a := e) (b := s (r + 1)) (by omega) (by omega)), bd_e _ g1, lt_e, lt_e, nI_1]
    refine ⟨m', k1, fun b hb => ?_⟩
    rw [k2 b hb, b_or, g2 b hb, Bool.or_assoc]
    rfl
/-- a fault that is looked for rule by rule, on both sides -/
theorem E_ff {α β : Type} {ar re : Nat → Int32} {w0 : Int32} (h : ST X s R n kind place who width term start firstPart partMany rulePlace sort predicate firstTerm termMany partPlace mterm) (hn : n ≤ 240) (ML : Nat → Nat → Option (α ⊕ β)) (okv : α) (mk : Nat → β) (good : Nat → Prop) (hF : 480 < F) (hend : ∀ m, ML (m + 1) R = some (.inl okv)) (hstep : ∀ j, j < R → (M_Inspector_findInRule F kind who width term start ar re w0 (nI j) = some (-1) ∧ (∀ m, ML (m + 1) j = ML m (j + 1)) ∧ good j) ∨ ∃ x, x < n ∧ M_Inspector_findInRule F kind who width term start ar re w0 (nI j) = some (nI x) ∧ ∀ m, ML (m + 1) j = some (.inr (mk x))) : (M_Inspector_findFirst F kind who width term start (nI R) ar re w0 = some (-1) ∧ ML F 0 = some (.inl okv) ∧ ∀ j, j < R → good j) ∨ ∃ x, x < n ∧ M_Inspector_findFirst F kind who width term start (nI R) ar re w0 = some (nI x) ∧ ML F 0 = some (.inr (mk x)) := by
  have hR := h.2.2.2.1
  have loop : ∀ (d j f m : Nat), j + d = R → d < f → d < m → (M_Inspector_findFirst_L2 F kind who width term start (nI R) ar re w0 f (nI j) = some (.inl ()) ∧ ML m j = some (.inl okv) ∧ ∀ r, j ≤ r → r < R → good r) ∨ ∃ x, x < n ∧ M_Inspector_findFirst_L2 F kind who width term start (nI R) ar re w0 f (nI j) = some (.inr (nI x)) ∧ ML m j = some (.inr (mk x)) := fun d => by
    induction d with
    | zero =>
      intro j f m hj hf hm
      obtain ⟨f, rfl⟩ : ∃ k, f = k + 1 := ⟨f - 1, by omega⟩
      obtain ⟨m, rfl⟩ : ∃ k, m = k + 1 := ⟨m - 1, by omega⟩
      have : j = R := by omega
      subst this
      refine Or.inl ⟨?_, hend m, fun r h1 h2 => by omega⟩
      unfold M_Inspector_findFirst_L2
      rw [if_pos (nI_le (Nat.le_refl j) (by omega))]
    | succ d ih =>
      intro j f m hj hf hm
      obtain ⟨f, rfl⟩ : ∃ k, f = k + 1 := ⟨f - 1, by omega⟩
      obtain ⟨m, rfl⟩ : ∃ k, m = k + 1 := ⟨m - 1, by omega⟩
      have hjR : j < R := by omega
      rcases hstep j hjR with ⟨g1, g2, g3⟩ | ⟨x, hx, g1, g2⟩
      · have step : M_Inspector_findFirst_L2 F kind who width term start (nI R) ar re w0 (f + 1) (nI j) = M_Inspector_findFirst_L2 F kind who width term start (nI R) ar re w0 f (nI (j + 1)) := by
          conv => lhs; unfold M_Inspector_findFirst_L2
          rw [if_neg (nI_ge (a := j) (b := R) hjR (by omega)), bd_e _ g1, if_pos rfl, lt_e, nI_1]
        rw [step, g2]
        rcases ih (j + 1) f m (by omega) (by omega) (by omega) with ⟨k1, k2, k3⟩ | k
        · refine Or.inl ⟨k1, k2, fun r h1 h2 => ?_⟩
          by_cases c : r = j
          · subst c; exact g3
          · exact k3 r (by omega) h2
        · exact Or.inr k
      · refine Or.inr ⟨x, hx, ?_, g2 m⟩
        unfold M_Inspector_findFirst_L2
        rw [if_neg (nI_ge (a := j) (b := R) hjR (by omega)), bd_e _ g1, if_neg (nI_nm1 (by omega))]
  have cE : ∀ z, M_Inspector_findFirst_L2 F kind who width term start (nI R) ar re w0 F (nI 0) = some z → M_Inspector_findFirst F kind who width term start (nI R) ar re w0 = cs_ z (fun q4 => some (-1 : Int32)) (fun o => some o) := fun z hz => by
    unfold M_Inspector_findFirst
    exact bd_e (fun z3 => cs_ z3 (fun q4 => some (-1 : Int32)) (fun o => some o)) hz
  rcases loop R 0 F F (by omega) (by omega) (by omega) with ⟨k1, k2, k3⟩ | ⟨x, hx, k1, k2⟩
  · exact Or.inl ⟨cE _ k1, k2, fun j hj => k3 j (Nat.zero_le _) hj⟩
  · exact Or.inr ⟨x, hx, cE _ k1, k2⟩
theorem E_f3 (h : ST X s R n kind place who width term start firstPart partMany rulePlace sort predicate firstTerm termMany partPlace mterm) (hn : n ≤ 240) (h480 : tw_ X n ≤ 480) (hF : 480 < F) {ar re : Nat → Int32} {f fp : Int32} : (M_Inspector_findFirst F kind who width term start (nI R) ar re 3 = some (-1) ∧ M_Model_sizes F f fp (nI R) firstPart partMany rulePlace firstTerm termMany mterm = some (1, f, fp) ∧ ∀ j, j < R → (j < 16 ∧ s (j + 1) - s j - 1 ≤ 5 ∧ nvr X s j ≤ 4)) ∨ ∃ x, x < n ∧ M_Inspector_findFirst F kind who width term start (nI R) ar re 3 = some (nI x) ∧ M_Model_sizes F f fp (nI R) firstPart partMany rulePlace firstTerm termMany mterm = some (0, 3, nI (X x).pl) := by
  have hR := h.2.2.2.1
  have mE : ∀ z, M_Model_sizes_L2 F (nI R) firstPart partMany rulePlace firstTerm termMany mterm F (nI 0) f fp = some z → M_Model_sizes F f fp (nI R) firstPart partMany rulePlace firstTerm termMany mterm = cs_ z (fun q7 => some ((1 : Int32), q7.1, q7.2)) (fun o => some o) := fun z hz => by
    unfold M_Model_sizes
    exact bd_e (fun z6 => cs_ z6 (fun q7 => some ((1 : Int32), q7.1, q7.2)) (fun o => some o)) hz
  rcases E_ff (F := F) (ar := ar) (re := re) (w0 := 3) h hn (fun m j => M_Model_sizes_L2 F (nI R) firstPart partMany rulePlace firstTerm termMany mterm m (nI j) f fp) (f, fp) (fun x => ((0 : Int32), (3 : Int32), nI (X x).pl)) (fun j => j < 16 ∧ s (j + 1) - s j - 1 ≤ 5 ∧ nvr X s j ≤ 4) hF (fun m => by
    show M_Model_sizes_L2 F (nI R) firstPart partMany rulePlace firstTerm termMany mterm (m + 1) (nI R) f fp = _
    unfold M_Model_sizes_L2
    rw [if_pos (nI_le (Nat.le_refl R) (by omega))]) (fun j hj => by
    have e0 := h.st (show j ≤ R by omega)
    have e1 := h.st (show j + 1 ≤ R by omega)
    obtain ⟨b1, b2, b3, b4, b5, b6, b7, b8⟩ := h.2.2.2.2.2 j hj
    obtain ⟨m, k1, k2⟩ := S_tl_L (F := F) h hn hF hj (s (j + 1) - s j) (s j) F 0 (by omega) (by omega)
    have ebc : M_Integer_bitCount_0f7a4 m = some (nI (nvr X s j)) := by
      rw [S_bc32]
      refine congrArg some (congrArg nI (ct_congr (fun b hb => ?_)))
      rw [k2 b hb, b_0, Bool.false_or]
    have hnv : nvr X s j ≤ 32 := ct_le _ _
    have esub : nI (s (j + 1)) - nI (s j) - (1 : Int32) = nI (s (j + 1) - s j - 1) := by
      rw [pk_sub (by omega)]
      exact pk_sub (b := 1) (by omega)
    have ctl : M_Inspector_isTooLarge F width term start (nI j) = if (16 : Int32) ≤ nI j then (some (1 : Int32)) else (if (5 : Int32) < nI (s (j + 1) - s j - 1) then (some (1 : Int32)) else (if nI (nvr X s j) ≤ (4 : Int32) then (some (0 : Int32)) else (some (1 : Int32)))) := by
      unfold M_Inspector_isTooLarge
      rw [gd_n _ (show j < 241 by omega) (by decide), lt_e, nI_clamp (show j < 2 ^ 31 by omega), e0.1, bd_e _ k1, nI_1, gd_n _ (show j + 1 < 241 by omega) (by decide), lt_e, nI_clamp (show j + 1 < 2 ^ 31 by omega), e1.1, gd_n _ (show j < 241 by omega) (by decide), lt_e, esub, bd_e _ ebc]
    have cin : ∀ z, M_Inspector_isTooLarge F width term start (nI j) = some z → M_Inspector_findInRule F kind who width term start ar re 3 (nI j) = if z = 0 then some (-1) else some (nI (s j)) := fun z hz => by
      unfold M_Inspector_findInRule
      rw [gd_n _ (show j < 241 by omega) (by decide), lt_e, nI_clamp (show j < 2 ^ 31 by omega), e0.1, if_neg (by decide), if_pos rfl, bd_e _ hz]
    have bad : M_Inspector_isTooLarge F width term start (nI j) = some 1 → (∀ m, M_Model_sizes_L2 F (nI R) firstPart partMany rulePlace firstTerm termMany mterm (m + 1) (nI j) f fp = some (.inr (0, 3, nI (X (s j)).pl))) → ∃ x, x < n ∧ M_Inspector_findInRule F kind who width term start ar re 3 (nI j) = some (nI x) ∧ ∀ m, M_Model_sizes_L2 F (nI R) firstPart partMany rulePlace firstTerm termMany mterm (m + 1) (nI j) f fp = some (.inr (0, 3, nI (X x).pl)) := fun z1 z2 => ⟨s j, by omega, by rw [cin 1 z1, if_neg (by decide)], z2⟩
    by_cases c16 : 16 ≤ j
    · have l16 : (16 : Int32) ≤ nI j := nI_le (a := 16) c16 (by omega)
      refine Or.inr (bad (by rw [ctl, if_pos l16]) (fun m => ?_))
      unfold M_Model_sizes_L2
      rw [if_neg (nI_ge (a := j) (b := R) hj (by omega)), if_pos l16, gd_n _ (show j < 250 by omega) (by decide), nI_clamp (show j < 2 ^ 31 by omega), b6]
      rfl
    · have l16 : ¬ (16 : Int32) ≤ nI j := nI_ge (a := j) (b := 16) (by omega) (by decide)
      by_cases c5 : 5 < s (j + 1) - s j - 1
      · have l5 : (5 : Int32) < nI (s (j + 1) - s j - 1) := nI_lt (a := 5) c5 (by omega)
        refine Or.inr (bad (by rw [ctl, if_neg l16, if_pos l5]) (fun m => ?_))
        unfold M_Model_sizes_L2
        rw [if_neg (nI_ge (a := j) (b := R) hj (by omega)), if_neg l16, gd_n _ (show j < 250 by omega) (by decide), nI_clamp (show j < 2 ^ 31 by omega), b5, if_pos l5, gd_n _ (show j < 250 by omega) (by decide), b6]
        rfl
      · have l5 : ¬ (5 : Int32) < nI (s (j + 1) - s j - 1) := nI_nlt (a := 5) (b := s (j + 1) - s j - 1) (by omega) (by decide)
        have ev := S_variables (F := F) h hn h480 hF hj
        by_cases c4 : nvr X s j ≤ 4
        · have l4 : nI (nvr X s j) ≤ (4 : Int32) := nI_le (b := 4) c4 (by decide)
          refine Or.inl ⟨?_, fun m => ?_, by omega, by omega, c4⟩
          · rw [cin 0 (by rw [ctl, if_neg l16, if_neg l5, if_pos l4]), if_pos rfl]
          · show M_Model_sizes_L2 F (nI R) firstPart partMany rulePlace firstTerm termMany mterm (m + 1) (nI j) f fp = M_Model_sizes_L2 F (nI R) firstPart partMany rulePlace firstTerm termMany mterm m (nI (j + 1)) f fp
            conv => lhs; unfold M_Model_sizes_L2
            rw [if_neg (nI_ge (a := j) (b := R) hj (by omega)), if_neg l16, gd_n _ (show j < 250 by omega) (by decide), nI_clamp (show j < 2 ^ 31 by omega), b5, if_neg l5, bd_e _ ev, if_pos l4, lt_e, nI_1]
        · have l4 : ¬ nI (nvr X s j) ≤ (4 : Int32) := nI_ge (a := 4) (b := nvr X s j) (by omega) (by omega)
          refine Or.inr (bad (by rw [ctl, if_neg l16, if_neg l5, if_neg l4]) (fun m => ?_))
          unfold M_Model_sizes_L2
          rw [if_neg (nI_ge (a := j) (b := R) hj (by omega)), if_neg l16, gd_n _ (show j < 250 by omega) (by decide), nI_clamp (show j < 2 ^ 31 by omega), b5, if_neg l5, bd_e _ ev, if_neg l4, gd_n _ (show j < 250 by omega) (by decide), b6]
          rfl) with ⟨k1, k2, k3⟩ | ⟨x, hx, k1, k2⟩
  · exact Or.inl ⟨k1, mE _ k2, k3⟩
  · exact Or.inr ⟨x, hx, k1, mE _ k2⟩
end
