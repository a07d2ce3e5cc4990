/-! faults 4 and 5 -/
section
variable {F : Nat} {X : Nat → En} {s : Nat → Nat} {R n : Nat} {kind place who width term start firstPart partMany rulePlace sort predicate firstTerm termMany partPlace mterm : Nat → Int32}
/-- letter L stands in entry e -/
def leX (X : Nat → En) (e L : Nat) : Prop := lett (X e).tm (X e).wd L = true
/-- an atom of rule r's body binds letter L -/
def bdX (X : Nat → En) (s : Nat → Nat) (r L : Nat) : Prop := ∃ e, s r < e ∧ e < s (r + 1) ∧ (X e).kd = 1 ∧ leX X e L
theorem leX_lt (h : SE X n kind place who width term sort predicate firstTerm termMany partPlace mterm) {e L : Nat} (he : e < n) (hL : leX X e L) : L < 26 := by
  obtain ⟨t, ht, h1⟩ := lett_iff.mp hL
  have := (h e he).1.2.2.2.2.1 t ht
  omega
theorem S_ub_L (h : ST X s R n kind place who width term start firstPart partMany rulePlace sort predicate firstTerm termMany partPlace mterm) (hn : n ≤ 240) (hF : 480 < F) {r : Nat} (hr : r < R) : ∀ (d e f : Nat) (u b : Int32), e + d = s (r + 1) → d < f → ∃ u' b', M_Inspector_hasUnboundVariable_L12 F kind width term start (nI r) f (nI e) u b = some (u', b') ∧ ∀ L, L < 32 → (bt u' L = true ↔ (bt u L = true ∨ ∃ x, e ≤ x ∧ x < s (r + 1) ∧ (X x).kd ≠ 1 ∧ leX X x L)) ∧ (bt b' L = true ↔ (bt b L = true ∨ ∃ x, e ≤ x ∧ x < s (r + 1) ∧ (X x).kd = 1 ∧ leX X x L))
  | 0, e, f, u, b, he, hf => by
    obtain ⟨f, rfl⟩ : ∃ m, f = m + 1 := ⟨f - 1, by omega⟩
    have e1 := h.st (show r + 1 ≤ R by omega)
    have hR := h.2.2.2.1
    unfold M_Inspector_hasUnboundVariable_L12
    rw [nI_1, gd_n _ (show r + 1 < 241 by omega) (by decide), lt_e, nI_clamp (show r + 1 < 2 ^ 31 by omega), e1.1, if_pos (nI_le (by omega) (by omega))]
    exact ⟨u, b, rfl, fun L _ => ⟨⟨Or.inl, fun z => z.elim id (fun ⟨x, h1, h2, _⟩ => by omega)⟩, ⟨Or.inl, fun z => z.elim id (fun ⟨x, h1, h2, _⟩ => by omega)⟩⟩⟩
  | d + 1, e, f, u, b, he, hf => by
    obtain ⟨f, rfl⟩ : ∃ m, f = m + 1 := ⟨f - 1, by omega⟩
    have e1 := h.st (show r + 1 ≤ R by omega)
    have hR := h.2.2.2.1
    have hen : e < n := by omega
    obtain ⟨⟨a1, -⟩, ⟨c1, -⟩, -⟩ := h.1 e hen
    obtain ⟨mk, g1, g2⟩ := S_varsX (F := F) h.1 hn (by omega) hen
    have ek : nI (X e).kd = (1 : Int32) ↔ (X e).kd = 1 := nI_eq (b := 1) (by omega) (by decide)
    unfold M_Inspector_hasUnboundVariable_L12
    rw [nI_1 r, gd_n _ (show r + 1 < 241 by omega) (by decide), lt_e, nI_clamp (show r + 1 < 2 ^ 31 by omega), e1.1, if_neg (nI_ge (a := e) (b := s (r + 1)) (by omega) (by omega)), gd_n _ (show e < 240 by omega) (by decide), nI_clamp (show e < 2 ^ 31 by omega), c1]
    by_cases c : (X e).kd = 1
    · obtain ⟨u', b', k1, k2⟩ := S_ub_L h hn hF hr d (e + 1) f u (b ||| mk) (by omega) (by omega)
      rw [if_pos (ek.mpr c), bd_e _ g1, lt_e, lt_e, nI_1]
      refine ⟨u', b', k1, fun L hL => ⟨(k2 L hL).1.trans ?_, (k2 L hL).2.trans ?_⟩⟩
      · refine or_congr Iff.rfl ⟨fun ⟨x, h1, h2⟩ => ⟨x, by omega, h2⟩, fun ⟨x, h1, h2, h3, h4⟩ => ⟨x, ?_, h2, h3, h4⟩⟩
        have : x ≠ e := fun z => h3 (z ▸ c)
        omega
      · rw [b_or, Bool.or_eq_true, g2 L hL]
        constructor
        · rintro ((z | z) | ⟨x, h1, h2⟩)
          · exact Or.inl z
          · exact Or.inr ⟨e, Nat.le_refl e, by omega, c, z⟩
          · exact Or.inr ⟨x, by omega, h2⟩
        · rintro (z | ⟨x, h1, h2, h3, h4⟩)
          · exact Or.inl (Or.inl z)
          · by_cases cx : x = e
            · subst cx; exact Or.inl (Or.inr h4)
            · exact Or.inr ⟨x, by omega, h2, h3, h4⟩
    · obtain ⟨u', b', k1, k2⟩ := S_ub_L h hn hF hr d (e + 1) f (u ||| mk) b (by omega) (by omega)
      rw [if_neg (fun z => c (ek.mp z)), bd_e _ g1, lt_e, lt_e, nI_1]
      refine ⟨u', b', k1, fun L hL => ⟨(k2 L hL).1.trans ?_, (k2 L hL).2.trans ?_⟩⟩
      · rw [b_or, Bool.or_eq_true, g2 L hL]
        constructor
        · rintro ((z | z) | ⟨x, h1, h2⟩)
          · exact Or.inl z
          · exact Or.inr ⟨e, Nat.le_refl e, by omega, c, z⟩
          · exact Or.inr ⟨x, by omega, h2⟩
        · rintro (z | ⟨x, h1, h2, h3, h4⟩)
          · exact Or.inl (Or.inl z)
          · by_cases cx : x = e
            · subst cx; exact Or.inl (Or.inr h4)
            · exact Or.inr ⟨x, by omega, h2, h3, h4⟩
      · refine or_congr Iff.rfl ⟨fun ⟨x, h1, h2⟩ => ⟨x, by omega, h2⟩, fun ⟨x, h1, h2, h3, h4⟩ => ⟨x, ?_, h2, h3, h4⟩⟩
        have : x ≠ e := fun z => c (z ▸ h3)
        omega
/-- all letters of rule r's other parts are bound -/
def sfX (X : Nat → En) (s : Nat → Nat) (r : Nat) : Prop := ∀ e L, s r ≤ e → e < s (r + 1) → (X e).kd ≠ 1 → leX X e L → bdX X s r L
theorem S_ub (h : ST X s R n kind place who width term start firstPart partMany rulePlace sort predicate firstTerm termMany partPlace mterm) (hn : n ≤ 240) (hF : 480 < F) {r : Nat} (hr : r < R) : (M_Inspector_hasUnboundVariable F kind width term start (nI r) = some 0 ∧ sfX X s r) ∨ (M_Inspector_hasUnboundVariable F kind width term start (nI r) = some 1 ∧ ¬ sfX X s r) := by
  have e0 := h.st (show r ≤ R by omega)
  have e1 := h.st (show r + 1 ≤ R by omega)
  have hR := h.2.2.2.1
  obtain ⟨b1, b2, b3, b4, b5, b6, b7, b8⟩ := h.2.2.2.2.2 r hr
  obtain ⟨u, b, k1, k2⟩ := S_ub_L (F := F) h hn hF hr (s (r + 1) - s r) (s r) F 0 0 (by omega) (by omega)
  have hb : ∀ L, L < 32 → (bt b L = true ↔ bdX X s r L) := fun L hL => by
    rw [(k2 L hL).2, b_0]
    constructor
    · rintro (z | ⟨x, h1, h2, h3, h4⟩)
      · exact absurd z (by decide)
      · have : x ≠ s r := fun z => by rw [z, b7] at h3; exact absurd h3 (by decide)
        exact ⟨x, by omega, h2, h3, h4⟩
    · rintro ⟨x, h1, h2, h3, h4⟩
      exact Or.inr ⟨x, by omega, h2, h3, h4⟩
  have key : (u &&& (b ^^^ (-1 : Int32))) = 0 ↔ sfX X s r := by
    rw [and_0]
    constructor
    · intro hno e L h1 h2 h3 h4
      have hL := leX_lt h.1 (show e < n by omega) h4
      refine (hb L (by omega)).mp (Classical.byContradiction (fun z => hno ⟨L, by omega, (k2 L (by omega)).1.mpr (Or.inr ⟨e, h1, h2, h3, h4⟩), ?_⟩))
      rw [bt_m1x _ (by omega)]
      simpa using z
    · rintro hs ⟨L, hL, z1, z2⟩
      rw [bt_m1x _ hL] at z2
      rcases (k2 L hL).1.mp z1 with y | ⟨x, h1, h2, h3, h4⟩
      · rw [b_0] at y; exact absurd y (by decide)
      · rw [(hb L hL).mpr (hs x L h1 h2 h3 h4)] at z2
        exact absurd z2 (by decide)
  by_cases c : sfX X s r
  · refine Or.inl ⟨?_, c⟩
    unfold M_Inspector_hasUnboundVariable
    rw [gd_n _ (show r < 241 by omega) (by decide), lt_e, nI_clamp (show r < 2 ^ 31 by omega), e0.1, bd_e _ k1, if_pos (key.mpr c)]
  · refine Or.inr ⟨?_, c⟩
    unfold M_Inspector_hasUnboundVariable
    rw [gd_n _ (show r < 241 by omega) (by decide), lt_e, nI_clamp (show r < 2 ^ 31 by omega), e0.1, bd_e _ k1, if_neg (fun z => c (key.mp z))]
theorem mtv_let {v L : Nat} (hv : v < 38) (hL : L < 100) : mtv v = 100 + L ↔ v = 12 + L := by
  unfold mtv
  split <;> omega
theorem S_ib29 (h : SE X n kind place who width term sort predicate firstTerm termMany partPlace mterm) (hn : n ≤ 240) (h480 : tw_ X n ≤ 480) {e L : Nat} (he : e < n) (hL : L < 26) (hk : 1 ≤ (X e).kd) : ∀ (d t f : Nat), t + d = (X e).wd → d < f → (M_Model_isBound_L29 F sort firstTerm termMany mterm (nI e) (nI (100 + L)) f (nI t) = some (.inr 1) ∧ (X e).kd = 1 ∧ ∃ u, t ≤ u ∧ u < (X e).wd ∧ (X e).tm u = 12 + L) ∨ (M_Model_isBound_L29 F sort firstTerm termMany mterm (nI e) (nI (100 + L)) f (nI t) = some (.inl ()) ∧ ¬ ((X e).kd = 1 ∧ ∃ u, t ≤ u ∧ u < (X e).wd ∧ (X e).tm u = 12 + L))
  | 0, t, f, ht, hf => by
    obtain ⟨f, rfl⟩ : ∃ m, f = m + 1 := ⟨f - 1, by omega⟩
    obtain ⟨a, -, c⟩ := h e he
    have w3 := a.2.1
    refine Or.inr ⟨?_, fun ⟨_, u, h1, h2, _⟩ => by omega⟩
    unfold M_Model_isBound_L29
    rw [gd_n _ (show e < 260 by omega) (by decide), nI_clamp (show e < 2 ^ 31 by omega), c.2.2.2.1, if_pos (nI_le (by omega) (by omega))]
  | d + 1, t, f, ht, hf => by
    obtain ⟨f, rfl⟩ : ∃ m, f = m + 1 := ⟨f - 1, by omega⟩
    obtain ⟨a, -, c⟩ := h e he
    have w3 := a.2.1
    have k5 := a.1
    have hm := tw_end (X := X) he
    have hv := a.2.2.2.2.1 t (by omega)
    have hmv := mtv_lt hv
    have es : nI ((X e).kd - 1) = (0 : Int32) ↔ (X e).kd = 1 := by
      rw [show (0 : Int32) = nI 0 from rfl, nI_eq (by omega) (by decide)]
      omega
    by_cases ck : (X e).kd = 1
    · by_cases cv : (X e).tm t = 12 + L
      · refine Or.inl ⟨?_, ck, t, Nat.le_refl t, by omega, cv⟩
        unfold M_Model_isBound_L29
        rw [gd_n _ (show e < 260 by omega) (by decide), nI_clamp (show e < 2 ^ 31 by omega), c.2.2.2.1, if_neg (nI_ge (a := t) (b := (X e).wd) (by omega) (by omega)), gd_n _ (show e < 260 by omega) (by decide), c.1, if_pos (es.mpr ck), gd_n _ (show e < 260 by omega) (by decide), c.2.2.1, nI_add, gd_n _ (show tw_ X e + t < 480 by omega) (by decide), lt_e, nI_clamp (show tw_ X e + t < 2 ^ 31 by omega), c.2.2.2.2.2 t (by omega), if_pos (congrArg nI ((mtv_let hv (by omega)).mpr cv))]
      · have ih := S_ib29 h hn h480 he hL hk d (t + 1) f (by omega) (by omega)
        have step : M_Model_isBound_L29 F sort firstTerm termMany mterm (nI e) (nI (100 + L)) (f + 1) (nI t) = M_Model_isBound_L29 F sort firstTerm termMany mterm (nI e) (nI (100 + L)) f (nI (t + 1)) := by
          conv => lhs; unfold M_Model_isBound_L29
          rw [gd_n _ (show e < 260 by omega) (by decide), nI_clamp (show e < 2 ^ 31 by omega), c.2.2.2.1, if_neg (nI_ge (a := t) (b := (X e).wd) (by omega) (by omega)), gd_n _ (show e < 260 by omega) (by decide), c.1, if_pos (es.mpr ck), gd_n _ (show e < 260 by omega) (by decide), c.2.2.1, nI_add, gd_n _ (show tw_ X e + t < 480 by omega) (by decide), lt_e, nI_clamp (show tw_ X e + t < 2 ^ 31 by omega), c.2.2.2.2.2 t (by omega), if_neg (fun z => cv ((mtv_let hv (by omega)).mp ((nI_eq (by omega) (by omega)).mp z))), lt_e, nI_1]
        rw [step]
        rcases ih with ⟨g1, g2, u, g3, g4⟩ | ⟨g1, g2⟩
        · exact Or.inl ⟨g1, g2, u, by omega, g4⟩
        · refine Or.inr ⟨g1, fun ⟨z1, u, z2, z3, z4⟩ => g2 ⟨z1, u, ?_, z3, z4⟩⟩
          have : u ≠ t := fun w => cv (w ▸ z4)
          omega
    · refine Or.inr ⟨?_, fun z => ck z.1⟩
      unfold M_Model_isBound_L29
      rw [gd_n _ (show e < 260 by omega) (by decide), nI_clamp (show e < 2 ^ 31 by omega), c.2.2.2.1, if_neg (nI_ge (a := t) (b := (X e).wd) (by omega) (by omega)), gd_n _ (show e < 260 by omega) (by decide), c.1, if_neg (fun z => ck (es.mp z))]
theorem S_ib9 (h : ST X s R n kind place who width term start firstPart partMany rulePlace sort predicate firstTerm termMany partPlace mterm) (hn : n ≤ 240) (h480 : tw_ X n ≤ 480) (hF : 480 < F) {r L : Nat} (hr : r < R) (hL : L < 26) : ∀ (d e f : Nat), e + d = s (r + 1) → s r < e → d < f → (M_Model_isBound_L9 F firstPart partMany sort firstTerm termMany mterm (nI r) (nI (100 + L)) f (nI e) = some (.inr 1) ∧ ∃ x, e ≤ x ∧ x < s (r + 1) ∧ (X x).kd = 1 ∧ leX X x L) ∨ (M_Model_isBound_L9 F firstPart partMany sort firstTerm termMany mterm (nI r) (nI (100 + L)) f (nI e) = some (.inl ()) ∧ ¬ ∃ x, e ≤ x ∧ x < s (r + 1) ∧ (X x).kd = 1 ∧ leX X x L)
  | 0, e, f, he, hse, hf => by
    obtain ⟨f, rfl⟩ : ∃ m, f = m + 1 := ⟨f - 1, by omega⟩
    have e1 := h.fp hr
    have hR := h.2.2.2.1
    have e2 := (h.st (show r + 1 ≤ R by omega)).2
    refine Or.inr ⟨?_, fun ⟨x, h1, h2, _⟩ => by omega⟩
    unfold M_Model_isBound_L9
    rw [gd_n _ (show r < 250 by omega) (by decide), gd_n _ (show r < 250 by omega) (by decide), lt_e, nI_clamp (show r < 2 ^ 31 by omega), e1.2, if_pos (nI_lt (by omega) (by omega))]
  | d + 1, e, f, he, hse, hf => by
    obtain ⟨f, rfl⟩ : ∃ m, f = m + 1 := ⟨f - 1, by omega⟩
    have e1 := h.fp hr
    have hR := h.2.2.2.1
    have e2 := (h.st (show r + 1 ≤ R by omega)).2
    obtain ⟨b1, b2, b3, b4, b5, b6, b7, b8⟩ := h.2.2.2.2.2 r hr
    have w3 := (h.1 e (by omega)).1.2.1
    have ih := S_ib9 h hn h480 hF hr hL d (e + 1) f (by omega) (by omega) (by omega)
    rcases S_ib29 (F := F) h.1 hn h480 (show e < n by omega) hL (b8 e hse (by omega)) (X e).wd 0 F (by omega) (by omega) with ⟨g1, g2, u, g3, g4, g5⟩ | ⟨g1, g2⟩
    · have g1 : M_Model_isBound_L29 F sort firstTerm termMany mterm (nI e) (nI (100 + L)) F (0 : Int32) = _ := g1
      refine Or.inl ⟨?_, e, Nat.le_refl e, by omega, g2, lett_iff.mpr ⟨u, g4, g5⟩⟩
      unfold M_Model_isBound_L9
      rw [gd_n _ (show r < 250 by omega) (by decide), gd_n _ (show r < 250 by omega) (by decide), lt_e, nI_clamp (show r < 2 ^ 31 by omega), e1.2, if_neg (nI_nlt (a := s (r + 1) - 1) (b := e) (by omega) (by omega)), bd_e _ g1]
      rfl
    · have g1 : M_Model_isBound_L29 F sort firstTerm termMany mterm (nI e) (nI (100 + L)) F (0 : Int32) = _ := g1
      have step : M_Model_isBound_L9 F firstPart partMany sort firstTerm termMany mterm (nI r) (nI (100 + L)) (f + 1) (nI e) = M_Model_isBound_L9 F firstPart partMany sort firstTerm termMany mterm (nI r) (nI (100 + L)) f (nI (e + 1)) := by
        conv => lhs; unfold M_Model_isBound_L9
        rw [gd_n _ (show r < 250 by omega) (by decide), gd_n _ (show r < 250 by omega) (by decide), lt_e, nI_clamp (show r < 2 ^ 31 by omega), e1.2, if_neg (nI_nlt (a := s (r + 1) - 1) (b := e) (by omega) (by omega)), bd_e _ g1, csL, lt_e, nI_1]
      rw [step]
      rcases ih with ⟨k1, x, k2, k3⟩ | ⟨k1, k2⟩
      · exact Or.inl ⟨k1, x, by omega, k3⟩
      · refine Or.inr ⟨k1, fun ⟨x, z1, z2, z3, z4⟩ => k2 ⟨x, ?_, z2, z3, z4⟩⟩
        have : x ≠ e := fun w => by
          subst w
          obtain ⟨u, u1, u2⟩ := lett_iff.mp z4
          exact g2 ⟨z3, u, Nat.zero_le _, u1, u2⟩
        omega
theorem S_isBound (h : ST X s R n kind place who width term start firstPart partMany rulePlace sort predicate firstTerm termMany partPlace mterm) (hn : n ≤ 240) (h480 : tw_ X n ≤ 480) (hF : 480 < F) {r L : Nat} (hr : r < R) (hL : L < 26) : (M_Model_isBound F firstPart partMany sort firstTerm termMany mterm (nI r) (nI (100 + L)) = some 1 ∧ bdX X s r L) ∨ (M_Model_isBound F firstPart partMany sort firstTerm termMany mterm (nI r) (nI (100 + L)) = some 0 ∧ ¬ bdX X s r L) := by
  have e1 := h.fp hr
  have hR := h.2.2.2.1
  have e2 := (h.st (show r + 1 ≤ R by omega)).2
  obtain ⟨b1, -⟩ := h.2.2.2.2.2 r hr
  rcases S_ib9 (F := F) h hn h480 hF hr hL (s (r + 1) - (s r + 1)) (s r + 1) F (by omega) (by omega) (by omega) with ⟨g1, x, g2, g3⟩ | ⟨g1, g2⟩
  · refine Or.inl ⟨?_, x, by omega, g3⟩
    unfold M_Model_isBound
    rw [gd_n _ (show r < 250 by omega) (by decide), lt_e, nI_clamp (show r < 2 ^ 31 by omega), e1.1, nI_1]
    exact bd_e (fun z8 => cs_ z8 (fun q9 => some (0 : Int32)) (fun o => some o)) g1
  · refine Or.inr ⟨?_, fun ⟨x, z1, z2⟩ => g2 ⟨x, by omega, z2⟩⟩
    unfold M_Model_isBound
    rw [gd_n _ (show r < 250 by omega) (by decide), lt_e, nI_clamp (show r < 2 ^ 31 by omega), e1.1, nI_1]
    exact bd_e (fun z8 => cs_ z8 (fun q9 => some (0 : Int32)) (fun o => some o)) g1
theorem S_b58 (h : ST X s R n kind place who width term start firstPart partMany rulePlace sort predicate firstTerm termMany partPlace mterm) (hn : n ≤ 240) (h480 : tw_ X n ≤ 480) (hF : 480 < F) {r e : Nat} (hr : r < R) (he : e < n) {ff fp : Int32} : ∀ (d t f : Nat), t + d = (X e).wd → d < f → (M_Model_bounds_L58 F firstPart partMany rulePlace sort firstTerm termMany mterm (nI e) (nI r) f (nI t) ff fp = some (.inl (ff, fp)) ∧ ∀ u L, t ≤ u → u < (X e).wd → (X e).tm u = 12 + L → bdX X s r L) ∨ (M_Model_bounds_L58 F firstPart partMany rulePlace sort firstTerm termMany mterm (nI e) (nI r) f (nI t) ff fp = some (.inr (0, 4, nI (X (s r)).pl)) ∧ ∃ L, leX X e L ∧ ¬ bdX X s r L)
  | 0, t, f, ht, hf => by
    obtain ⟨f, rfl⟩ : ∃ m, f = m + 1 := ⟨f - 1, by omega⟩
    obtain ⟨a, -, c⟩ := h.1 e he
    have w3 := a.2.1
    refine Or.inl ⟨?_, fun u L h1 h2 => by omega⟩
    unfold M_Model_bounds_L58
    rw [gd_n _ (show e < 260 by omega) (by decide), nI_clamp (show e < 2 ^ 31 by omega), c.2.2.2.1, if_pos (nI_le (by omega) (by omega))]
  | d + 1, t, f, ht, hf => by
    obtain ⟨f, rfl⟩ : ∃ m, f = m + 1 := ⟨f - 1, by omega⟩
    obtain ⟨a, -, c⟩ := h.1 e he
    have w3 := a.2.1
    have hm := tw_end (X := X) he
    have hR := h.2.2.2.1
    have hv := a.2.2.2.2.1 t (by omega)
    have hmv := mtv_lt hv
    obtain ⟨b1, b2, b3, b4, b5, b6, b7, b8⟩ := h.2.2.2.2.2 r hr
    have ih := S_b58 (ff := ff) (fp := fp) h hn h480 hF hr he d (t + 1) f (by omega) (by omega)
    have next : (∀ L, (X e).tm t = 12 + L → bdX X s r L) → M_Model_bounds_L58 F firstPart partMany rulePlace sort firstTerm termMany mterm (nI e) (nI r) (f + 1) (nI t) ff fp = M_Model_bounds_L58 F firstPart partMany rulePlace sort firstTerm termMany mterm (nI e) (nI r) f (nI (t + 1)) ff fp → (M_Model_bounds_L58 F firstPart partMany rulePlace sort firstTerm termMany mterm (nI e) (nI r) (f + 1) (nI t) ff fp = some (.inl (ff, fp)) ∧ ∀ u L, t ≤ u → u < (X e).wd → (X e).tm u = 12 + L → bdX X s r L) ∨ (M_Model_bounds_L58 F firstPart partMany rulePlace sort firstTerm termMany mterm (nI e) (nI r) (f + 1) (nI t) ff fp = some (.inr (0, 4, nI (X (s r)).pl)) ∧ ∃ L, leX X e L ∧ ¬ bdX X s r L) := fun hok eq => by
      rw [eq]
      rcases ih with ⟨g1, g2⟩ | g
      · refine Or.inl ⟨g1, fun u L h1 h2 h3 => ?_⟩
        by_cases cu : u = t
        · subst cu; exact hok L h3
        · exact g2 u L (by omega) h2 h3
      · exact Or.inr g
    by_cases c12 : (X e).tm t < 12
    · refine next (fun L z => by omega) ?_
      conv => lhs; unfold M_Model_bounds_L58
      rw [gd_n _ (show e < 260 by omega) (by decide), nI_clamp (show e < 2 ^ 31 by omega), c.2.2.2.1, if_neg (nI_ge (a := t) (b := (X e).wd) (by omega) (by omega)), gd_n _ (show e < 260 by omega) (by decide), c.2.2.1, nI_add, gd_n _ (show tw_ X e + t < 480 by omega) (by decide), lt_e, nI_clamp (show tw_ X e + t < 2 ^ 31 by omega), c.2.2.2.2.2 t (by omega), if_pos (show nI (mtv ((X e).tm t)) < (100 : Int32) from nI_lt (b := 100) (hmv.2.mpr c12) (by decide)), lt_e, nI_1]
    · have em : mtv ((X e).tm t) = 100 + ((X e).tm t - 12) := (mtv_let hv (by omega)).mpr (by omega)
      have hL : (X e).tm t - 12 < 26 := by omega
      rcases S_isBound (F := F) h hn h480 hF hr hL with ⟨g1, g2⟩ | ⟨g1, g2⟩
      · refine next (fun L z => by rw [show L = (X e).tm t - 12 by omega]; exact g2) ?_
        conv => lhs; unfold M_Model_bounds_L58
        rw [gd_n _ (show e < 260 by omega) (by decide), nI_clamp (show e < 2 ^ 31 by omega), c.2.2.2.1, if_neg (nI_ge (a := t) (b := (X e).wd) (by omega) (by omega)), gd_n _ (show e < 260 by omega) (by decide), c.2.2.1, nI_add, gd_n _ (show tw_ X e + t < 480 by omega) (by decide), lt_e, nI_clamp (show tw_ X e + t < 2 ^ 31 by omega), c.2.2.2.2.2 t (by omega), em, if_neg (show ¬ nI (100 + ((X e).tm t - 12)) < (100 : Int32) from nI_nlt (b := 100) (by omega) (by omega)), bd_e _ g1, if_neg (by decide), lt_e, nI_1]
      · refine Or.inr ⟨?_, (X e).tm t - 12, lett_iff.mpr ⟨t, by omega, by omega⟩, g2⟩
        unfold M_Model_bounds_L58
        rw [gd_n _ (show e < 260 by omega) (by decide), nI_clamp (show e < 2 ^ 31 by omega), c.2.2.2.1, if_neg (nI_ge (a := t) (b := (X e).wd) (by omega) (by omega)), gd_n _ (show e < 260 by omega) (by decide), c.2.2.1, nI_add, gd_n _ (show tw_ X e + t < 480 by omega) (by decide), lt_e, nI_clamp (show tw_ X e + t < 2 ^ 31 by omega), c.2.2.2.2.2 t (by omega), em, if_neg (show ¬ nI (100 + ((X e).tm t - 12)) < (100 : Int32) from nI_nlt (b := 100) (by omega) (by omega)), bd_e _ g1, if_pos rfl, gd_n _ (show r < 250 by omega) (by decide), nI_clamp (show r < 2 ^ 31 by omega), b6]
        rfl
theorem S_b17 (h : ST X s R n kind place who width term start firstPart partMany rulePlace sort predicate firstTerm termMany partPlace mterm) (hn : n ≤ 240) (h480 : tw_ X n ≤ 480) (hF : 480 < F) {r : Nat} (hr : r < R) {ff fp : Int32} : ∀ (d e f : Nat), e + d = s (r + 1) → s r ≤ e → d < f → (M_Model_bounds_L17 F firstPart partMany rulePlace sort firstTerm termMany mterm (nI r) f (nI e) ff fp = some (.inl (ff, fp)) ∧ ∀ x L, e ≤ x → x < s (r + 1) → (X x).kd ≠ 1 → leX X x L → bdX X s r L) ∨ (M_Model_bounds_L17 F firstPart partMany rulePlace sort firstTerm termMany mterm (nI r) f (nI e) ff fp = some (.inr (0, 4, nI (X (s r)).pl)) ∧ ∃ x L, e ≤ x ∧ x < s (r + 1) ∧ (X x).kd ≠ 1 ∧ leX X x L ∧ ¬ bdX X s r L)
  | 0, e, f, he, hse, hf => by
    obtain ⟨f, rfl⟩ : ∃ m, f = m + 1 := ⟨f - 1, by omega⟩
    have e1 := h.fp hr
    have hR := h.2.2.2.1
    have e2 := (h.st (show r + 1 ≤ R by omega)).2
    obtain ⟨b1, -⟩ := h.2.2.2.2.2 r hr
    refine Or.inl ⟨?_, fun x L h1 h2 => by omega⟩
    unfold M_Model_bounds_L17
    rw [gd_n _ (show r < 250 by omega) (by decide), gd_n _ (show r < 250 by omega) (by decide), lt_e, nI_clamp (show r < 2 ^ 31 by omega), e1.2, if_pos (nI_lt (by omega) (by omega))]
  | d + 1, e, f, he, hse, hf => by
    obtain ⟨f, rfl⟩ : ∃ m, f = m + 1 := ⟨f - 1, by omega⟩
    have e1 := h.fp hr
    have hR := h.2.2.2.1
    have e2 := (h.st (show r + 1 ≤ R by omega)).2
    have hen : e < n := by omega
    obtain ⟨b1, b2, b3, b4, b5, b6, b7, b8⟩ := h.2.2.2.2.2 r hr
    obtain ⟨a, -, c⟩ := h.1 e hen
    have w3 := a.2.1
    have k5 := a.1
    have ih := S_b17 (ff := ff) (fp := fp) h hn h480 hF hr d (e + 1) f (by omega) (by omega) (by omega)
    have head : M_Model_bounds_L17 F firstPart partMany rulePlace sort firstTerm termMany mterm (nI r) (f + 1) (nI e) ff fp = (if nI e ≤ nI (s r) then (bd_ (M_Model_bounds_L58 F firstPart partMany rulePlace sort firstTerm termMany mterm (nI e) (nI r) F (0 : Int32) ff fp) fun z8 => cs_ z8 (fun q9 => lt_ (nI e + (1 : Int32)) fun v10 => M_Model_bounds_L17 F firstPart partMany rulePlace sort firstTerm termMany mterm (nI r) f v10 q9.1 q9.2) (fun o => some (.inr o))) else (if nI ((X e).kd - 1) = 0 then (lt_ (nI e + (1 : Int32)) fun v14 => M_Model_bounds_L17 F firstPart partMany rulePlace sort firstTerm termMany mterm (nI r) f v14 ff fp) else (bd_ (M_Model_bounds_L58 F firstPart partMany rulePlace sort firstTerm termMany mterm (nI e) (nI r) F (0 : Int32) ff fp) fun z11 => cs_ z11 (fun q12 => lt_ (nI e + (1 : Int32)) fun v13 => M_Model_bounds_L17 F firstPart partMany rulePlace sort firstTerm termMany mterm (nI r) f v13 q12.1 q12.2) (fun o => some (.inr o))))) := by
      conv => lhs; unfold M_Model_bounds_L17
      rw [gd_n _ (show r < 250 by omega) (by decide), gd_n _ (show r < 250 by omega) (by decide), lt_e, nI_clamp (show r < 2 ^ 31 by omega), e1.2, if_neg (nI_nlt (a := s (r + 1) - 1) (b := e) (by omega) (by omega)), gd_n _ (show r < 250 by omega) (by decide), e1.1, gd_n _ (show e < 260 by omega) (by decide), nI_clamp (show e < 2 ^ 31 by omega), c.1]
    have skip : (X e).kd = 1 → M_Model_bounds_L17 F firstPart partMany rulePlace sort firstTerm termMany mterm (nI r) (f + 1) (nI e) ff fp = M_Model_bounds_L17 F firstPart partMany rulePlace sort firstTerm termMany mterm (nI r) f (nI (e + 1)) ff fp := fun hk => by
      have hes : e ≠ s r := fun z => by rw [z, b7] at hk; exact absurd hk (by decide)
      rw [head, if_neg (nI_ge (a := s r) (b := e) (by omega) (by omega)), if_pos (by rw [hk]; rfl), lt_e, nI_1]
    by_cases ck : (X e).kd = 1
    · rw [skip ck]
      rcases ih with ⟨g1, g2⟩ | ⟨g1, x, L, g2, g3⟩
      · refine Or.inl ⟨g1, fun x L h1 h2 h3 h4 => g2 x L ?_ h2 h3 h4⟩
        have : x ≠ e := fun z => h3 (z ▸ ck)
        omega
      · exact Or.inr ⟨g1, x, L, by omega, g3⟩
    · have way : ∀ z, M_Model_bounds_L58 F firstPart partMany rulePlace sort firstTerm termMany mterm (nI e) (nI r) F (0 : Int32) ff fp = some z → M_Model_bounds_L17 F firstPart partMany rulePlace sort firstTerm termMany mterm (nI r) (f + 1) (nI e) ff fp = cs_ z (fun q9 => lt_ (nI e + (1 : Int32)) fun v10 => M_Model_bounds_L17 F firstPart partMany rulePlace sort firstTerm termMany mterm (nI r) f v10 q9.1 q9.2) (fun o => some (.inr o)) := fun z hz => by
        rw [head]
        by_cases ce : nI e ≤ nI (s r)
        · rw [if_pos ce, bd_e _ hz]
        · have : ¬ nI ((X e).kd - 1) = 0 := fun z => by
            have h1 := (nI_eq (a := (X e).kd - 1) (b := 0) (by omega) (by decide)).mp z
            have h2 : s r < e := Classical.byContradiction (fun y => ce (nI_le (by omega) (by omega)))
            have := b8 e h2 (by omega)
            omega
          rw [if_neg ce, if_neg this, bd_e _ hz]
      rcases S_b58 (F := F) (ff := ff) (fp := fp) h hn h480 hF hr hen (X e).wd 0 F (by omega) (by omega) with ⟨g1, g2⟩ | ⟨g1, L, g2, g3⟩
      · rw [way _ g1, csL, lt_e, nI_1]
        rcases ih with ⟨k1, k2⟩ | ⟨k1, x, L, k2, k3⟩
        · refine Or.inl ⟨k1, fun x L h1 h2 h3 h4 => ?_⟩
          by_cases cx : x = e
          · subst cx
            obtain ⟨u, u1, u2⟩ := lett_iff.mp h4
            exact g2 u L (Nat.zero_le _) u1 u2
          · exact k2 x L (by omega) h2 h3 h4
        · exact Or.inr ⟨k1, x, L, by omega, k3⟩
      · exact Or.inr ⟨way _ g1, e, L, Nat.le_refl e, by omega, ck, g2, g3⟩
theorem E_f4 (h : ST X s R n kind place who width term start firstPart partMany rulePlace sort predicate firstTerm termMany partPlace mterm) (hn : n ≤ 240) (h480 : tw_ X n ≤ 480) (hF : 480 < F) {ar re : Nat → Int32} {f fp : Int32} : (M_Inspector_findFirst F kind who width term start (nI R) ar re 4 = some (-1) ∧ M_Model_bounds F f fp (nI R) firstPart partMany rulePlace sort firstTerm termMany mterm = some (1, f, fp) ∧ ∀ j, j < R → sfX X s j) ∨ ∃ x, x < n ∧ M_Inspector_findFirst F kind who width term start (nI R) ar re 4 = some (nI x) ∧ M_Model_bounds F f fp (nI R) firstPart partMany rulePlace sort firstTerm termMany mterm = some (0, 4, nI (X x).pl) := by
  have hR := h.2.2.2.1
  have mE : ∀ z, M_Model_bounds_L2 F (nI R) firstPart partMany rulePlace sort firstTerm termMany mterm F (nI 0) f fp = some z → M_Model_bounds F f fp (nI R) firstPart partMany rulePlace sort firstTerm termMany mterm = cs_ z (fun q19 => some ((1 : Int32), q19.1, q19.2)) (fun o => some o) := fun z hz => by
    unfold M_Model_bounds
    exact bd_e (fun z18 => cs_ z18 (fun q19 => some ((1 : Int32), q19.1, q19.2)) (fun o => some o)) hz
  rcases E_ff (F := F) (ar := ar) (re := re) (w0 := 4) h hn (fun m j => M_Model_bounds_L2 F (nI R) firstPart partMany rulePlace sort firstTerm termMany mterm m (nI j) f fp) (f, fp) (fun x => ((0 : Int32), (4 : Int32), nI (X x).pl)) (fun j => sfX X s j) hF (fun m => by
    show M_Model_bounds_L2 F (nI R) firstPart partMany rulePlace sort firstTerm termMany mterm (m + 1) (nI R) f fp = _
    unfold M_Model_bounds_L2
    rw [if_pos (nI_le (Nat.le_refl R) (by omega))]) (fun j hj => by
    have e0 := h.st (show j ≤ R by omega)
    have e1 := h.st (show j + 1 ≤ R by omega)
    have e2 := h.fp hj
    obtain ⟨b1, b2, b3, b4, b5, b6, b7, b8⟩ := h.2.2.2.2.2 j hj
    have cin : ∀ z, M_Inspector_hasUnboundVariable F kind width term start (nI j) = some z → M_Inspector_findInRule F kind who width term start ar re 4 (nI j) = if z = 0 then some (-1) else some (nI (s j)) := fun z hz => by
      unfold M_Inspector_findInRule
      rw [gd_n _ (show j < 241 by omega) (by decide), lt_e, nI_clamp (show j < 2 ^ 31 by omega), e0.1, if_neg (by decide), if_neg (by decide), if_pos rfl, bd_e _ hz]
    have ms : ∀ m z, M_Model_bounds_L17 F firstPart partMany rulePlace sort firstTerm termMany mterm (nI j) F (nI (s j)) f fp = some z → M_Model_bounds_L2 F (nI R) firstPart partMany rulePlace sort firstTerm termMany mterm (m + 1) (nI j) f fp = cs_ z (fun q16 => lt_ (nI j + (1 : Int32)) fun v17 => M_Model_bounds_L2 F (nI R) firstPart partMany rulePlace sort firstTerm termMany mterm m v17 q16.1 q16.2) (fun o => some (.inr o)) := fun m z hz => by
      conv => lhs; unfold M_Model_bounds_L2
      rw [if_neg (nI_ge (a := j) (b := R) hj (by omega)), gd_n _ (show j < 250 by omega) (by decide), lt_e, nI_clamp (show j < 2 ^ 31 by omega), e2.1, bd_e _ hz]
    rcases S_b17 (F := F) (ff := f) (fp := fp) h hn h480 hF hj (s (j + 1) - s j) (s j) F (by omega) (Nat.le_refl _) (by omega) with ⟨g1, g2⟩ | ⟨g1, x, L, g2, g3, g4, g5, g6⟩
    · rcases S_ub (F := F) h hn hF hj with ⟨k1, k2⟩ | ⟨k1, k2⟩
      · refine Or.inl ⟨by rw [cin 0 k1, if_pos rfl], fun m => ?_, k2⟩
        show M_Model_bounds_L2 F (nI R) firstPart partMany rulePlace sort firstTerm termMany mterm (m + 1) (nI j) f fp = M_Model_bounds_L2 F (nI R) firstPart partMany rulePlace sort firstTerm termMany mterm m (nI (j + 1)) f fp
        rw [ms m _ g1, csL, lt_e, nI_1]
      · exact absurd (fun e L h1 h2 h3 h4 => g2 e L h1 h2 h3 h4) k2
    · rcases S_ub (F := F) h hn hF hj with ⟨k1, k2⟩ | ⟨k1, k2⟩
      · exact absurd (k2 x L g2 g3 g4 g5) g6
      · exact Or.inr ⟨s j, by omega, by rw [cin 1 k1, if_neg (by decide)], fun m => ms m _ g1⟩) with ⟨k1, k2, k3⟩ | ⟨x, hx, k1, k2⟩
  · exact Or.inl ⟨k1, mE _ k2, k3⟩
  · exact Or.inr ⟨x, hx, k1, mE _ k2⟩
/-- a part that denies its own rule's predicate -/
def d5X (X : Nat → En) (s : Nat → Nat) (re : Nat → Int32) (r e : Nat) : Prop := (X e).kd = 2 ∧ bt (re (X e).pd) (X (s r)).pd = true
theorem E_f5L (h : ST X s R n kind place who width term start firstPart partMany rulePlace sort predicate firstTerm termMany partPlace mterm) (hn : n ≤ 240) {re depends : Nat → Int32} (hd : ∀ p q, p < 10 → q < 10 → depends (10 * p + q) = bI (bt (re p) q)) {r : Nat} (hr : r < R) {ff fp : Int32} : ∀ (d e f m : Nat), e + d = s (r + 1) → s r < e → d < f → d < m → (M_Inspector_findDenialOfItself_L21 F kind who start re (nI (X (s r)).pd) (nI r) f (nI e) = some (.inl ()) ∧ M_Model_layers_L23 F firstPart partMany sort predicate partPlace depends (nI r) m (nI e) ff fp = some (.inl (ff, fp)) ∧ ∀ x, e ≤ x → x < s (r + 1) → ¬ d5X X s re r x) ∨ ∃ x, x < n ∧ M_Inspector_findDenialOfItself_L21 F kind who start re (nI (X (s r)).pd) (nI r) f (nI e) = some (.inr (nI x)) ∧ M_Model_layers_L23 F firstPart partMany sort predicate partPlace depends (nI r) m (nI e) ff fp = some (.inr (0, 5, nI (X x).pl, depends))
  | 0, e, f, m, he, hse, hf, hm => by
    obtain ⟨f, rfl⟩ : ∃ k, f = k + 1 := ⟨f - 1, by omega⟩
    obtain ⟨m, rfl⟩ : ∃ k, m = k + 1 := ⟨m - 1, by omega⟩
    have e1 := h.st (show r + 1 ≤ R by omega)
    have e2 := h.fp hr
    have hR := h.2.2.2.1
    refine Or.inl ⟨?_, ?_, fun x h1 h2 => by omega⟩
    · unfold M_Inspector_findDenialOfItself_L21
      rw [nI_1, gd_n _ (show r + 1 < 241 by omega) (by decide), lt_e, nI_clamp (show r + 1 < 2 ^ 31 by omega), e1.1, if_pos (nI_le (by omega) (by omega))]
    · unfold M_Model_layers_L23
      rw [gd_n _ (show r < 250 by omega) (by decide), gd_n _ (show r < 250 by omega) (by decide), lt_e, nI_clamp (show r < 2 ^ 31 by omega), e2.2, if_pos (nI_lt (by omega) (by omega))]
  | d + 1, e, f, m, he, hse, hf, hm => by
    obtain ⟨f, rfl⟩ : ∃ k, f = k + 1 := ⟨f - 1, by omega⟩
    obtain ⟨m, rfl⟩ : ∃ k, m = k + 1 := ⟨m - 1, by omega⟩
    have e1 := h.st (show r + 1 ≤ R by omega)
    have e2 := h.fp hr
    have hR := h.2.2.2.1
    have hen : e < n := by omega
    obtain ⟨b1, b2, b3, b4, b5, b6, b7, b8⟩ := h.2.2.2.2.2 r hr
    obtain ⟨⟨a1, a2, a3, a4, a5, a6⟩, ⟨c1, c2, c3, c4, c5⟩, ⟨d1, d2, d3, d4, d5, d6⟩⟩ := h.1 e hen
    obtain ⟨⟨-, -, -, A4, -, -⟩, -, ⟨D1, D2, D3, D4, D5, D6⟩⟩ := h.1 (s r) (by omega)
    have p10 := A4 (by omega)
    have k1 := b8 e hse (by omega)
    have ih := E_f5L (ff := ff) (fp := fp) h hn hd hr d (e + 1) f m (by omega) (by omega) (by omega) (by omega)
    have chd : M_Inspector_findDenialOfItself_L21 F kind who start re (nI (X (s r)).pd) (nI r) (f + 1) (nI e) = (if nI (X e).kd = (2 : Int32) then (gd_ (nI e) 240 <| gd_ (who e) 10 <| lt_ (re (who e).toNatClampNeg) fun v5 => if ((v5 >>> (nI (X (s r)).pd &&& 31)) &&& (1 : Int32)) = 0 then (lt_ (nI e + (1 : Int32)) fun v6 => M_Inspector_findDenialOfItself_L21 F kind who start re (nI (X (s r)).pd) (nI r) f v6) else (some (.inr (nI e)))) else (lt_ (nI e + (1 : Int32)) fun v4 => M_Inspector_findDenialOfItself_L21 F kind who start re (nI (X (s r)).pd) (nI r) f v4)) := by
      conv => lhs; unfold M_Inspector_findDenialOfItself_L21
      rw [nI_1 r, gd_n _ (show r + 1 < 241 by omega) (by decide), lt_e, nI_clamp (show r + 1 < 2 ^ 31 by omega), e1.1, if_neg (nI_ge (a := e) (b := s (r + 1)) (by omega) (by omega)), gd_n _ (show e < 240 by omega) (by decide), nI_clamp (show e < 2 ^ 31 by omega), c1]
    have mhd : M_Model_layers_L23 F firstPart partMany sort predicate partPlace depends (nI r) (m + 1) (nI e) ff fp = (if nI ((X e).kd - 1) = (1 : Int32) then (gd_ (nI e) 260 <| lt_ (((10 : Int32) * (predicate e))) fun v5 => gd_ (nI r) 250 <| gd_ (nI (s r)) 260 <| lt_ (predicate (s r)) fun v6 => gd_ (v5 + v6) 100 <| lt_ ((depends (v5 + v6).toNatClampNeg)) fun v7 => if v7 = 0 then (lt_ (nI e + (1 : Int32)) fun v8 => M_Model_layers_L23 F firstPart partMany sort predicate partPlace depends (nI r) m v8 ff fp) else (gd_ (nI e) 260 <| bd_ (M_Model_wrong ff fp (5 : Int32) (partPlace e)) fun z9 => gz_ z9.1 <| some (.inr (z9.1, z9.2.1, z9.2.2, depends)))) else (lt_ (nI e + (1 : Int32)) fun v4 => M_Model_layers_L23 F firstPart partMany sort predicate partPlace depends (nI r) m v4 ff fp)) := by
      conv => lhs; unfold M_Model_layers_L23
      rw [gd_n _ (show r < 250 by omega) (by decide), gd_n _ (show r < 250 by omega) (by decide), lt_e, nI_clamp (show r < 2 ^ 31 by omega), e2.2, if_neg (nI_nlt (a := s (r + 1) - 1) (b := e) (by omega) (by omega)), gd_n _ (show e < 260 by omega) (by decide), nI_clamp (show e < 2 ^ 31 by omega), d1, e2.1, nI_clamp (show s r < 2 ^ 31 by omega)]
    have next : ¬ d5X X s re r e → M_Inspector_findDenialOfItself_L21 F kind who start re (nI (X (s r)).pd) (nI r) (f + 1) (nI e) = M_Inspector_findDenialOfItself_L21 F kind who start re (nI (X (s r)).pd) (nI r) f (nI (e + 1)) → M_Model_layers_L23 F firstPart partMany sort predicate partPlace depends (nI r) (m + 1) (nI e) ff fp = M_Model_layers_L23 F firstPart partMany sort predicate partPlace depends (nI r) m (nI (e + 1)) ff fp → (M_Inspector_findDenialOfItself_L21 F kind who start re (nI (X (s r)).pd) (nI r) (f + 1) (nI e) = some (.inl ()) ∧ M_Model_layers_L23 F firstPart partMany sort predicate partPlace depends (nI r) (m + 1) (nI e) ff fp = some (.inl (ff, fp)) ∧ ∀ x, e ≤ x → x < s (r + 1) → ¬ d5X X s re r x) ∨ ∃ x, x < n ∧ M_Inspector_findDenialOfItself_L21 F kind who start re (nI (X (s r)).pd) (nI r) (f + 1) (nI e) = some (.inr (nI x)) ∧ M_Model_layers_L23 F firstPart partMany sort predicate partPlace depends (nI r) (m + 1) (nI e) ff fp = some (.inr (0, 5, nI (X x).pl, depends)) := fun hno q1 q2 => by
      rw [q1, q2]
      rcases ih with ⟨g1, g2, g3⟩ | g
      · refine Or.inl ⟨g1, g2, fun x h1 h2 => ?_⟩
        by_cases cx : x = e
        · subst cx; exact hno
        · exact g3 x (by omega) h2
      · exact Or.inr g
    by_cases ck : (X e).kd = 2
    · have q10 := a4 (by omega)
      have l1 : nI (X e).kd = (2 : Int32) := by rw [ck]; rfl
      have l2 : nI ((X e).kd - 1) = (1 : Int32) := by rw [ck]; rfl
      rw [if_pos l1, gd_n _ (show e < 240 by omega) (by decide), c4 (by omega), gd_n _ q10 (by decide), lt_e, nI_clamp (show (X e).pd < 2 ^ 31 by omega)] at chd
      rw [if_pos l2, gd_n _ (show e < 260 by omega) (by decide), lt_e, gd_n _ (show r < 250 by omega) (by decide), gd_n _ (show s r < 260 by omega) (by decide), lt_e, d2 (by omega), D2 (by omega), x10, gd_n _ (show 10 * (X e).pd + (X (s r)).pd < 100 by omega) (by decide), lt_e, nI_clamp (show 10 * (X e).pd + (X (s r)).pd < 2 ^ 31 by omega), hd _ _ q10 p10] at mhd
      cases hb : bt (re (X e).pd) (X (s r)).pd with
      | false =>
        refine next (fun z => by rw [z.2] at hb; exact absurd hb (by decide)) ?_ ?_
        · rw [chd, if_pos ((bt_ask _ (by omega)).mpr hb), lt_e, nI_1]
        · rw [mhd, hb, if_pos bI_f, lt_e, nI_1]
      | true =>
        refine Or.inr ⟨e, hen, ?_, ?_⟩
        · rw [chd, if_neg (fun z => by have := (bt_ask _ (show (X (s r)).pd < 32 by omega)).mp z; rw [hb] at this; exact absurd this (by decide))]
        · rw [mhd, hb, if_neg bI_t, gd_n _ (show e < 260 by omega) (by decide), d5]
          rfl
    · have l1 : ¬ nI (X e).kd = (2 : Int32) := fun z => ck ((nI_eq (b := 2) (by omega) (by decide)).mp z)
      have l2 : ¬ nI ((X e).kd - 1) = (1 : Int32) := fun z => by
        have := (nI_eq (a := (X e).kd - 1) (b := 1) (by omega) (by decide)).mp z
        omega
      refine next (fun z => ck z.1) ?_ ?_
      · rw [chd, if_neg l1, lt_e, nI_1]
      · rw [mhd, if_neg l2, lt_e, nI_1]
theorem E_f5 (h : ST X s R n kind place who width term start firstPart partMany rulePlace sort predicate firstTerm termMany partPlace mterm) (hn : n ≤ 240) (hF : 480 < F) {ar re depends depends0 : Nat → Int32} (hd : ∀ p q, p < 10 → q < 10 → depends (10 * p + q) = bI (bt (re p) q)) (hfd : M_Model_findDepends F (nI R) firstPart partMany sort predicate depends0 = some depends) {f fp : Int32} : (M_Inspector_findFirst F kind who width term start (nI R) ar re 5 = some (-1) ∧ M_Model_layers F f fp (nI R) firstPart partMany sort predicate partPlace depends0 = some (1, f, fp, depends) ∧ ∀ j, j < R → ∀ x, s j < x → x < s (j + 1) → ¬ d5X X s re j x) ∨ ∃ x, x < n ∧ M_Inspector_findFirst F kind who width term start (nI R) ar re 5 = some (nI x) ∧ M_Model_layers F f fp (nI R) firstPart partMany sort predicate partPlace depends0 = some (0, 5, nI (X x).pl, depends) := by
  have hR := h.2.2.2.1
  have mE : ∀ z, M_Model_layers_L6 F (nI R) firstPart partMany sort predicate partPlace depends F (nI 0) f fp = some z → M_Model_layers F f fp (nI R) firstPart partMany sort predicate partPlace depends0 = cs_ z (fun q14 => some ((1 : Int32), q14.1, q14.2, depends)) (fun o => some o) := fun z hz => by
    unfold M_Model_layers
    rw [bd_e _ hfd]
    exact bd_e (fun z13 => cs_ z13 (fun q14 => some ((1 : Int32), q14.1, q14.2, depends)) (fun o => some o)) hz
  rcases E_ff (F := F) (ar := ar) (re := re) (w0 := 5) h hn (fun m j => M_Model_layers_L6 F (nI R) firstPart partMany sort predicate partPlace depends m (nI j) f fp) (f, fp) (fun x => ((0 : Int32), (5 : Int32), nI (X x).pl, depends)) (fun j => ∀ x, s j < x → x < s (j + 1) → ¬ d5X X s re j x) hF (fun m => by
    show M_Model_layers_L6 F (nI R) firstPart partMany sort predicate partPlace depends (m + 1) (nI R) f fp = _
    unfold M_Model_layers_L6
    rw [if_pos (nI_le (Nat.le_refl R) (by omega))]) (fun j hj => by
    have e0 := h.st (show j ≤ R by omega)
    have e1 := h.st (show j + 1 ≤ R by omega)
    have e2 := h.fp hj
    obtain ⟨b1, b2, b3, b4, b5, b6, b7, b8⟩ := h.2.2.2.2.2 j hj
    obtain ⟨⟨-, -, -, A4, -, -⟩, ⟨C1, C2, C3, C4, C5⟩, -⟩ := h.1 (s j) (by omega)
    have p10 := A4 (by omega)
    have cin : ∀ z, M_Inspector_findDenialOfItself_L21 F kind who start re (nI (X (s j)).pd) (nI j) F (nI (s j + 1)) = some z → M_Inspector_findInRule F kind who width term start ar re 5 (nI j) = cs_ z (fun q8 => some (-1 : Int32)) (fun o => some o) := fun z hz => by
      have e3 : M_Inspector_findDenialOfItself F kind who start re (nI j) = cs_ z (fun q8 => some (-1 : Int32)) (fun o => some o) := by
        unfold M_Inspector_findDenialOfItself
        rw [gd_n _ (show j < 241 by omega) (by decide), nI_clamp (show j < 2 ^ 31 by omega), e0.1, gd_n _ (show s j < 240 by omega) (by decide), lt_e, nI_clamp (show s j < 2 ^ 31 by omega), C4 (by omega), gd_n _ (show j < 241 by omega) (by decide), lt_e, nI_1, bd_e _ hz]
      unfold M_Inspector_findInRule
      rw [gd_n _ (show j < 241 by omega) (by decide), lt_e, if_neg (by decide), if_neg (by decide), if_neg (by decide), e3]
      cases z with
      | inl a => rfl
      | inr a => rfl
    have ms : ∀ m z, M_Model_layers_L23 F firstPart partMany sort predicate partPlace depends (nI j) F (nI (s j + 1)) f fp = some z → M_Model_layers_L6 F (nI R) firstPart partMany sort predicate partPlace depends (m + 1) (nI j) f fp = cs_ z (fun q11 => lt_ (nI j + (1 : Int32)) fun v12 => M_Model_layers_L6 F (nI R) firstPart partMany sort predicate partPlace depends m v12 q11.1 q11.2) (fun o => some (.inr o)) := fun m z hz => by
      conv => lhs; unfold M_Model_layers_L6
      rw [if_neg (nI_ge (a := j) (b := R) hj (by omega)), gd_n _ (show j < 250 by omega) (by decide), lt_e, nI_clamp (show j < 2 ^ 31 by omega), e2.1, nI_1 (s j), bd_e _ hz]
    rcases E_f5L (F := F) (ff := f) (fp := fp) h hn hd hj (s (j + 1) - (s j + 1)) (s j + 1) F F (by omega) (by omega) (by omega) (by omega) with ⟨g1, g2, g3⟩ | ⟨x, hx, g1, g2⟩
    · refine Or.inl ⟨cin _ g1, fun m => ?_, fun x h1 h2 => g3 x (by omega) h2⟩
      show M_Model_layers_L6 F (nI R) firstPart partMany sort predicate partPlace depends (m + 1) (nI j) f fp = M_Model_layers_L6 F (nI R) firstPart partMany sort predicate partPlace depends m (nI (j + 1)) f fp
      rw [ms m _ g2, csL, lt_e, nI_1]
    · exact Or.inr ⟨x, hx, cin _ g1, fun m => ms m _ g2⟩) with ⟨k1, k2, k3⟩ | ⟨x, hx, k1, k2⟩
  · exact Or.inl ⟨k1, mE _ k2, k3⟩
  · exact Or.inr ⟨x, hx, k1, mE _ k2⟩
end
