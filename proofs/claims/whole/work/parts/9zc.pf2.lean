theorem csL {α β γ : Type} (a : α) (f : α → Option γ) (g : β → Option γ) : cs_ (Sum.inl a) f g = f a := rfl
theorem csR {α β γ : Type} (b : β) (f : α → Option γ) (g : β → Option γ) : cs_ (Sum.inr b) f g = g b := rfl
/-! the faults, one kind after the other -/
theorem sof_0 {X : Nat → En} {p : Nat} : ∀ {m : Nat}, sof X m p = 0 ↔ ∀ e, e < m → ¬ ((X e).kd ≤ 2 ∧ (X e).pd = p)
  | 0 => ⟨fun _ e he => absurd he (Nat.not_lt_zero _), fun _ => rfl⟩
  | m + 1 => by
    show (if (X m).kd ≤ 2 ∧ (X m).pd = p then (if (X m).kd = 0 then 2 else if sof X m p = 0 then 1 else sof X m p) else sof X m p) = 0 ↔ _
    by_cases c : (X m).kd ≤ 2 ∧ (X m).pd = p
    · rw [if_pos c]
      refine ⟨fun z => ?_, fun z => absurd c (z m (by omega))⟩
      split at z
      · omega
      · split at z
        · omega
        · rename_i h1 h2; exact absurd z h2
    · rw [if_neg c, sof_0]
      refine ⟨fun z e he => ?_, fun z e he => z e (by omega)⟩
      by_cases ce : e = m
      · subst ce; exact c
      · exact z e (by omega)
theorem arf_first {X : Nat → En} {p : Nat} : ∀ {m : Nat}, (∃ e, e < m ∧ (X e).kd ≤ 2 ∧ (X e).pd = p) → ∃ e, e < m ∧ ((X e).kd ≤ 2 ∧ (X e).pd = p) ∧ (∀ x, x < e → ¬ ((X x).kd ≤ 2 ∧ (X x).pd = p)) ∧ arf X m p = (X e).wd
  | 0, ⟨e, he, _⟩ => absurd he (Nat.not_lt_zero _)
  | m + 1, ⟨e, he, h⟩ => by
    show ∃ e, e < m + 1 ∧ ((X e).kd ≤ 2 ∧ (X e).pd = p) ∧ (∀ x, x < e → ¬ ((X x).kd ≤ 2 ∧ (X x).pd = p)) ∧ (if ((X m).kd ≤ 2 ∧ (X m).pd = p) ∧ sof X m p = 0 then (X m).wd else arf X m p) = (X e).wd
    by_cases c : sof X m p = 0
    · have h0 := sof_0.mp c
      have : e = m := by
        refine Classical.byContradiction (fun z => h0 e (by omega) h)
      subst this
      exact ⟨e, by omega, h, h0, if_pos ⟨h, c⟩⟩
    · obtain ⟨x, hx, hx2⟩ : ∃ e, e < m ∧ (X e).kd ≤ 2 ∧ (X e).pd = p := by
        refine Classical.byContradiction (fun z => c (sof_0.mpr (fun e he w => z ⟨e, he, w⟩)))
      obtain ⟨e0, g1, g2, g3, g4⟩ := arf_first ⟨x, hx, hx2⟩
      exact ⟨e0, by omega, g2, g3, by rw [if_neg (fun z => c z.2)]; exact g4⟩
/-- an atom with another number of terms: as the class asks, as the reference asks -/
def w2c (X : Nat → En) (n e : Nat) : Prop := (X e).kd ≤ 2 ∧ (X e).wd ≠ arf X n (X e).pd
def w2m (X : Nat → En) (e : Nat) : Prop := (X e).kd ≤ 2 ∧ ∃ j, j < e ∧ (X j).kd ≤ 2 ∧ (X j).pd = (X e).pd ∧ (X j).wd ≠ (X e).wd
theorem w2_same {X : Nat → En} {n e : Nat} (he : e < n) (h : ∀ x, x < e → ¬ w2m X x) : w2m X e ↔ w2c X n e := by
  constructor
  · rintro ⟨h1, j, h2, h3, h4, h5⟩
    obtain ⟨f, g1, g2, g3, g4⟩ := arf_first (X := X) (p := (X e).pd) (m := n) ⟨e, he, h1, rfl⟩
    refine ⟨h1, fun z => h5 ?_⟩
    rw [z, g4]
    by_cases c : f = j
    · rw [c]
    · have hfj : f < j := by
        refine Classical.byContradiction (fun w => g3 j (by omega) ⟨h3, h4⟩)
      exact Classical.byContradiction (fun w => h j h2 ⟨h3, f, hfj, g2.1, g2.2.trans h4.symm, fun y => w y.symm⟩)
  · rintro ⟨h1, h2⟩
    obtain ⟨f, g1, g2, g3, g4⟩ := arf_first (X := X) (p := (X e).pd) (m := n) ⟨e, he, h1, rfl⟩
    have : f ≠ e := fun z => h2 (by rw [g4, z])
    have hf : f ≤ e := Classical.byContradiction (fun w => g3 e (by omega) ⟨h1, rfl⟩)
    exact ⟨h1, f, by omega, g2.1, g2.2, fun z => h2 (by rw [g4, z])⟩
section
variable {F : Nat} {X : Nat → En} {s : Nat → Nat} {R n : Nat} {kind place who width term start firstPart partMany rulePlace sort predicate firstTerm termMany partPlace mterm : Nat → Int32}
theorem S_other_L (h : ST X s R n kind place who width term start firstPart partMany rulePlace sort predicate firstTerm termMany partPlace mterm) (hn : n ≤ 240) {ar : Nat → Int32} (har : ∀ p, p < 10 → ar p = nI (arf X n p)) (ha3 : ∀ p, arf X n p ≤ 3) {r : Nat} (hr : r < R) : ∀ (d e f : Nat), e + d = s (r + 1) → d < f → (M_Inspector_findOtherArity_L7 F kind who width start ar (nI r) f (nI e) = some (.inl ()) ∧ ∀ x, e ≤ x → x < s (r + 1) → ¬ w2c X n x) ∨ ∃ x, M_Inspector_findOtherArity_L7 F kind who width start ar (nI r) f (nI e) = some (.inr (nI x)) ∧ e ≤ x ∧ x < s (r + 1) ∧ w2c X n x ∧ ∀ y, e ≤ y → y < x → ¬ w2c X n y
  | 0, e, f, he, hf => by
    obtain ⟨f, rfl⟩ : ∃ m, f = m + 1 := ⟨f - 1, by omega⟩
    have e1 := h.st (show r + 1 ≤ R by omega)
    have hR := h.2.2.2.1
    refine Or.inl ⟨?_, fun x h1 h2 => by omega⟩
    unfold M_Inspector_findOtherArity_L7
    rw [nI_1, gd_n _ (show r + 1 < 241 by omega) (by decide), lt_e, nI_clamp (show r + 1 < 2 ^ 31 by omega), e1.1, if_pos (nI_le (by omega) (by omega))]
  | d + 1, e, f, he, hf => by
    obtain ⟨f, rfl⟩ : ∃ m, f = m + 1 := ⟨f - 1, by omega⟩
    have e1 := h.st (show r + 1 ≤ R by omega)
    have hR := h.2.2.2.1
    have hen : e < n := by omega
    obtain ⟨⟨a1, a2, a3, a4, a5, a6⟩, ⟨c1, c2, c3, c4, c5⟩, -⟩ := h.1 e hen
    have ih := S_other_L h hn har ha3 hr d (e + 1) f (by omega) (by omega)
    have next : ¬ w2c X n e → M_Inspector_findOtherArity_L7 F kind who width start ar (nI r) (f + 1) (nI e) = M_Inspector_findOtherArity_L7 F kind who width start ar (nI r) f (nI (e + 1)) → (M_Inspector_findOtherArity_L7 F kind who width start ar (nI r) (f + 1) (nI e) = some (.inl ()) ∧ ∀ x, e ≤ x → x < s (r + 1) → ¬ w2c X n x) ∨ ∃ x, M_Inspector_findOtherArity_L7 F kind who width start ar (nI r) (f + 1) (nI e) = some (.inr (nI x)) ∧ e ≤ x ∧ x < s (r + 1) ∧ w2c X n x ∧ ∀ y, e ≤ y → y < x → ¬ w2c X n y := fun hw eq => by
      rw [eq]
      rcases ih with ⟨g1, g2⟩ | ⟨x, g1, g2, g3, g4, g5⟩
      · refine Or.inl ⟨g1, fun x h1 h2 => ?_⟩
        by_cases c : x = e
        · subst c; exact hw
        · exact g2 x (by omega) h2
      · refine Or.inr ⟨x, g1, by omega, g3, g4, fun y h1 h2 => ?_⟩
        by_cases c : y = e
        · subst c; exact hw
        · exact g5 y (by omega) h2
    by_cases c : (X e).kd ≤ 2
    · have p10 := a4 c
      have ha := ha3 (X e).pd
      by_cases cw : (X e).wd = arf X n (X e).pd
      · refine next (fun z => z.2 cw) ?_
        conv => lhs; unfold M_Inspector_findOtherArity_L7
        rw [nI_1 r, gd_n _ (show r + 1 < 241 by omega) (by decide), lt_e, nI_clamp (show r + 1 < 2 ^ 31 by omega), e1.1, if_neg (nI_ge (a := e) (b := s (r + 1)) (by omega) (by omega)), bd_e _ (S_isAtomX h.1 hn hen), decide_eq_true c, if_neg bI_t, gd_n _ (show e < 240 by omega) (by decide), gd_n _ (show e < 240 by omega) (by decide), nI_clamp (show e < 2 ^ 31 by omega), c4 c, gd_n _ p10 (by decide), lt_e, nI_clamp (show (X e).pd < 2 ^ 31 by omega), har _ p10, c3, if_pos (congrArg nI cw), lt_e, nI_1]
      · refine Or.inr ⟨e, ?_, Nat.le_refl e, by omega, ⟨c, cw⟩, fun y h1 h2 => by omega⟩
        unfold M_Inspector_findOtherArity_L7
        rw [nI_1 r, gd_n _ (show r + 1 < 241 by omega) (by decide), lt_e, nI_clamp (show r + 1 < 2 ^ 31 by omega), e1.1, if_neg (nI_ge (a := e) (b := s (r + 1)) (by omega) (by omega)), bd_e _ (S_isAtomX h.1 hn hen), decide_eq_true c, if_neg bI_t, gd_n _ (show e < 240 by omega) (by decide), gd_n _ (show e < 240 by omega) (by decide), nI_clamp (show e < 2 ^ 31 by omega), c4 c, gd_n _ p10 (by decide), lt_e, nI_clamp (show (X e).pd < 2 ^ 31 by omega), har _ p10, c3, if_neg (fun z => cw ((nI_eq (by omega) (by omega)).mp z))]
    · refine next (fun z => c z.1) ?_
      conv => lhs; unfold M_Inspector_findOtherArity_L7
      rw [nI_1 r, gd_n _ (show r + 1 < 241 by omega) (by decide), lt_e, nI_clamp (show r + 1 < 2 ^ 31 by omega), e1.1, if_neg (nI_ge (a := e) (b := s (r + 1)) (by omega) (by omega)), bd_e _ (S_isAtomX h.1 hn hen), decide_eq_false c, if_pos bI_f, lt_e, nI_1]
theorem arf_le (h : SE X n kind place who width term sort predicate firstTerm termMany partPlace mterm) : ∀ m, m ≤ n → ∀ p, arf X m p ≤ 3
  | 0, _, p => Nat.zero_le 3
  | m + 1, hm, p => by
    have := arf_le h m (by omega) p
    have := (h m (by omega)).1.2.1
    show (if ((X m).kd ≤ 2 ∧ (X m).pd = p) ∧ sof X m p = 0 then (X m).wd else arf X m p) ≤ 3
    split <;> omega
/-- the class looks for the first other number of terms -/
theorem S_first2 (h : ST X s R n kind place who width term start firstPart partMany rulePlace sort predicate firstTerm termMany partPlace mterm) (hn : n ≤ 240) (hF : 480 < F) {ar re : Nat → Int32} (har : ∀ p, p < 10 → ar p = nI (arf X n p)) : ∀ (d j f : Nat), j + d = R → d < f → (M_Inspector_findFirst_L2 F kind who width term start (nI R) ar re 2 f (nI j) = some (.inl ()) ∧ ∀ x, s j ≤ x → x < n → ¬ w2c X n x) ∨ ∃ x, M_Inspector_findFirst_L2 F kind who width term start (nI R) ar re 2 f (nI j) = some (.inr (nI x)) ∧ s j ≤ x ∧ x < n ∧ w2c X n x ∧ ∀ y, s j ≤ y → y < x → ¬ w2c X n y
  | 0, j, f, hj, hf => by
    obtain ⟨f, rfl⟩ : ∃ m, f = m + 1 := ⟨f - 1, by omega⟩
    have hR := h.2.2.2.1
    have hs := h.2.2.1
    have : j = R := by omega
    subst this
    refine Or.inl ⟨?_, fun x h1 h2 => by omega⟩
    unfold M_Inspector_findFirst_L2
    rw [if_pos (nI_le (Nat.le_refl j) (by omega))]
  | d + 1, j, f, hj, hf => by
    obtain ⟨f, rfl⟩ : ∃ m, f = m + 1 := ⟨f - 1, by omega⟩
    have hR := h.2.2.2.1
    have hjR : j < R := by omega
    have e0 := h.st (show j ≤ R by omega)
    have e1 := h.st (show j + 1 ≤ R by omega)
    obtain ⟨b1, -⟩ := h.2.2.2.2.2 j hjR
    have ih := S_first2 (re := re) h hn hF har d (j + 1) f (by omega) (by omega)
    have inr : ∀ z, M_Inspector_findOtherArity F kind who width start ar (nI j) = some z → M_Inspector_findInRule F kind who width term start ar re 2 (nI j) = some z := fun z hz => by
      unfold M_Inspector_findInRule
      rw [gd_n _ (show j < 241 by omega) (by decide), lt_e, if_pos rfl]
      exact bd_e (fun z2 => some z2) hz
    rcases S_other_L (F := F) h hn har (arf_le h.1 n (Nat.le_refl n)) hjR (s (j + 1) - s j) (s j) F (by omega) (by omega) with ⟨g1, g2⟩ | ⟨x, g1, g2, g3, g4, g5⟩
    · have e2 : M_Inspector_findOtherArity F kind who width start ar (nI j) = some (-1) := by
        unfold M_Inspector_findOtherArity
        rw [gd_n _ (show j < 241 by omega) (by decide), lt_e, nI_clamp (show j < 2 ^ 31 by omega), e0.1]
        exact bd_e (fun z7 => cs_ z7 (fun q8 => some (-1 : Int32)) (fun o => some o)) g1
      have step : M_Inspector_findFirst_L2 F kind who width term start (nI R) ar re 2 (f + 1) (nI j) = M_Inspector_findFirst_L2 F kind who width term start (nI R) ar re 2 f (nI (j + 1)) := by
        conv => lhs; unfold M_Inspector_findFirst_L2
        rw [if_neg (nI_ge (a := j) (b := R) hjR (by omega)), bd_e _ (inr _ e2), if_pos rfl, lt_e, nI_1]
      rw [step]
      rcases ih with ⟨k1, k2⟩ | ⟨x, k1, k2, k3, k4, k5⟩
      · refine Or.inl ⟨k1, fun x h1 h2 => ?_⟩
        by_cases c : x < s (j + 1)
        · exact g2 x h1 c
        · exact k2 x (by omega) h2
      · refine Or.inr ⟨x, k1, by omega, k3, k4, fun y h1 h2 => ?_⟩
        by_cases c : y < s (j + 1)
        · exact g2 y h1 c
        · exact k5 y (by omega) h2
    · have e2 : M_Inspector_findOtherArity F kind who width start ar (nI j) = some (nI x) := by
        unfold M_Inspector_findOtherArity
        rw [gd_n _ (show j < 241 by omega) (by decide), lt_e, nI_clamp (show j < 2 ^ 31 by omega), e0.1]
        exact bd_e (fun z7 => cs_ z7 (fun q8 => some (-1 : Int32)) (fun o => some o)) g1
      refine Or.inr ⟨x, ?_, g2, by omega, g4, g5⟩
      unfold M_Inspector_findFirst_L2
      rw [if_neg (nI_ge (a := j) (b := R) hjR (by omega)), bd_e _ (inr _ e2), if_neg (nI_nm1 (by omega))]
theorem S_w12 (h : SE X n kind place who width term sort predicate firstTerm termMany partPlace mterm) (hn : n ≤ 240) {f fp : Int32} {e : Nat} (he : e < n) : ∀ (d j m : Nat), j + d = e → d < m → (M_Model_widths_L12 F sort predicate termMany partPlace (nI e) m (nI j) f fp = some (.inl (f, fp)) ∧ ¬ ((X e).kd ≤ 2 ∧ ∃ x, j ≤ x ∧ x < e ∧ (X x).kd ≤ 2 ∧ (X x).pd = (X e).pd ∧ (X x).wd ≠ (X e).wd)) ∨ (M_Model_widths_L12 F sort predicate termMany partPlace (nI e) m (nI j) f fp = some (.inr (0, 2, nI (X e).pl)) ∧ (X e).kd ≤ 2 ∧ ∃ x, j ≤ x ∧ x < e ∧ (X x).kd ≤ 2 ∧ (X x).pd = (X e).pd ∧ (X x).wd ≠ (X e).wd)
  | 0, j, m, hj, hm => by
    obtain ⟨m, rfl⟩ : ∃ k, m = k + 1 := ⟨m - 1, by omega⟩
    refine Or.inl ⟨?_, fun ⟨_, x, h1, h2, _⟩ => by omega⟩
    unfold M_Model_widths_L12
    rw [if_pos (nI_le (by omega) (by omega))]
  | d + 1, j, m, hj, hm => by
    obtain ⟨m, rfl⟩ : ∃ k, m = k + 1 := ⟨m - 1, by omega⟩
    have ih := S_w12 (f := f) (fp := fp) h hn he d (j + 1) m (by omega) (by omega)
    obtain ⟨⟨a1, a2, a3, a4, a5, a6⟩, -, ⟨c1, c2, c3, c4, c5, c6⟩⟩ := h e he
    obtain ⟨⟨A1, A2, A3, A4, A5, A6⟩, -, ⟨C1, C2, C3, C4, C5, C6⟩⟩ := h j (by omega)
    by_cases ce : (X e).kd ≤ 2
    · have next : ¬ ((X j).kd ≤ 2 ∧ (X j).pd = (X e).pd ∧ (X j).wd ≠ (X e).wd) → M_Model_widths_L12 F sort predicate termMany partPlace (nI e) (m + 1) (nI j) f fp = M_Model_widths_L12 F sort predicate termMany partPlace (nI e) m (nI (j + 1)) f fp → (M_Model_widths_L12 F sort predicate termMany partPlace (nI e) (m + 1) (nI j) f fp = some (.inl (f, fp)) ∧ ¬ ((X e).kd ≤ 2 ∧ ∃ x, j ≤ x ∧ x < e ∧ (X x).kd ≤ 2 ∧ (X x).pd = (X e).pd ∧ (X x).wd ≠ (X e).wd)) ∨ (M_Model_widths_L12 F sort predicate termMany partPlace (nI e) (m + 1) (nI j) f fp = some (.inr (0, 2, nI (X e).pl)) ∧ (X e).kd ≤ 2 ∧ ∃ x, j ≤ x ∧ x < e ∧ (X x).kd ≤ 2 ∧ (X x).pd = (X e).pd ∧ (X x).wd ≠ (X e).wd) := fun hno eq => by
        rw [eq]
        rcases ih with ⟨g1, g2⟩ | ⟨g1, g2, x, g3, g4⟩
        · refine Or.inl ⟨g1, fun ⟨z1, x, z2, z3, z4⟩ => g2 ⟨z1, x, ?_, z3, z4⟩⟩
          have : x ≠ j := fun w => hno (w ▸ z4)
          omega
        · exact Or.inr ⟨g1, g2, x, by omega, g4⟩
      by_cases cj : (X j).kd ≤ 2
      · have p1 := a4 ce
        have p2 := A4 cj
        by_cases cp : (X j).pd = (X e).pd
        · by_cases cw : (X j).wd = (X e).wd
          · refine next (fun z => z.2.2 cw) ?_
            conv => lhs; unfold M_Model_widths_L12
            rw [if_neg (nI_ge (a := j) (b := e) (by omega) (by omega)), bd_e _ (S_isAtomM h hn he), decide_eq_true ce, if_neg bI_t, bd_e _ (S_isAtomM h hn (show j < n by omega)), decide_eq_true cj, if_neg bI_t, gd_n _ (show j < 260 by omega) (by decide), gd_n _ (show e < 260 by omega) (by decide), nI_clamp (show j < 2 ^ 31 by omega), nI_clamp (show e < 2 ^ 31 by omega), C2 cj, c2 ce, if_pos (congrArg nI cp), gd_n _ (show j < 260 by omega) (by decide), gd_n _ (show e < 260 by omega) (by decide), C4, c4, if_pos (congrArg nI cw), lt_e, nI_1]
          · refine Or.inr ⟨?_, ce, j, Nat.le_refl j, by omega, cj, cp, cw⟩
            unfold M_Model_widths_L12
            rw [if_neg (nI_ge (a := j) (b := e) (by omega) (by omega)), bd_e _ (S_isAtomM h hn he), decide_eq_true ce, if_neg bI_t, bd_e _ (S_isAtomM h hn (show j < n by omega)), decide_eq_true cj, if_neg bI_t, gd_n _ (show j < 260 by omega) (by decide), gd_n _ (show e < 260 by omega) (by decide), nI_clamp (show j < 2 ^ 31 by omega), nI_clamp (show e < 2 ^ 31 by omega), C2 cj, c2 ce, if_pos (congrArg nI cp), gd_n _ (show j < 260 by omega) (by decide), gd_n _ (show e < 260 by omega) (by decide), C4, c4, if_neg (fun z => cw ((nI_eq (by omega) (by omega)).mp z)), gd_n _ (show e < 260 by omega) (by decide), c5]
            rfl
        · refine next (fun z => cp z.2.1) ?_
          conv => lhs; unfold M_Model_widths_L12
          rw [if_neg (nI_ge (a := j) (b := e) (by omega) (by omega)), bd_e _ (S_isAtomM h hn he), decide_eq_true ce, if_neg bI_t, bd_e _ (S_isAtomM h hn (show j < n by omega)), decide_eq_true cj, if_neg bI_t, gd_n _ (show j < 260 by omega) (by decide), gd_n _ (show e < 260 by omega) (by decide), nI_clamp (show j < 2 ^ 31 by omega), nI_clamp (show e < 2 ^ 31 by omega), C2 cj, c2 ce, if_neg (fun z => cp ((nI_eq (by omega) (by omega)).mp z)), lt_e, nI_1]
      · refine next (fun z => cj z.1) ?_
        conv => lhs; unfold M_Model_widths_L12
        rw [if_neg (nI_ge (a := j) (b := e) (by omega) (by omega)), bd_e _ (S_isAtomM h hn he), decide_eq_true ce, if_neg bI_t, bd_e _ (S_isAtomM h hn (show j < n by omega)), decide_eq_false cj, if_pos bI_f, lt_e, nI_1]
    · refine Or.inl ⟨?_, fun z => ce z.1⟩
      unfold M_Model_widths_L12
      rw [if_neg (nI_ge (a := j) (b := e) (by omega) (by omega)), bd_e _ (S_isAtomM h hn he), decide_eq_false ce, if_pos bI_f]
theorem S_w2 (h : SE X n kind place who width term sort predicate firstTerm termMany partPlace mterm) (hn : n ≤ 240) (hF : 480 < F) {f fp : Int32} : ∀ (d e m : Nat), e + d = n → d < m → (∀ x, x < e → ¬ w2m X x) → (M_Model_widths_L2 F (nI n) sort predicate termMany partPlace m (nI e) f fp = some (.inl (f, fp)) ∧ ∀ x, x < n → ¬ w2m X x) ∨ ∃ x, x < n ∧ M_Model_widths_L2 F (nI n) sort predicate termMany partPlace m (nI e) f fp = some (.inr (0, 2, nI (X x).pl)) ∧ w2m X x ∧ ∀ y, y < x → ¬ w2m X y
  | 0, e, m, he, hm, hx => by
    obtain ⟨m, rfl⟩ : ∃ k, m = k + 1 := ⟨m - 1, by omega⟩
    have : e = n := by omega
    subst this
    refine Or.inl ⟨?_, hx⟩
    unfold M_Model_widths_L2
    rw [if_pos (nI_le (Nat.le_refl e) (by omega))]
  | d + 1, e, m, he, hm, hx => by
    obtain ⟨m, rfl⟩ : ∃ k, m = k + 1 := ⟨m - 1, by omega⟩
    have hen : e < n := by omega
    rcases S_w12 (F := F) (f := f) (fp := fp) h hn hen e 0 F (by omega) (by omega) with ⟨g1, g2⟩ | ⟨g1, g2, x, g3, g4⟩
    · have g1 : M_Model_widths_L12 F sort predicate termMany partPlace (nI e) F (0 : Int32) f fp = _ := g1
      have step : M_Model_widths_L2 F (nI n) sort predicate termMany partPlace (m + 1) (nI e) f fp = M_Model_widths_L2 F (nI n) sort predicate termMany partPlace m (nI (e + 1)) f fp := by
        conv => lhs; unfold M_Model_widths_L2
        rw [if_neg (nI_ge hen (by omega)), bd_e _ g1]
        rw [csL, lt_e, nI_1]
      rw [step]
      refine S_w2 h hn hF d (e + 1) m (by omega) (by omega) (fun x h1 => ?_)
      by_cases c : x = e
      · subst c
        exact fun ⟨z1, j, z2, z3⟩ => g2 ⟨z1, j, Nat.zero_le _, z2, z3⟩
      · exact hx x (by omega)
    · have g1 : M_Model_widths_L12 F sort predicate termMany partPlace (nI e) F (0 : Int32) f fp = _ := g1
      refine Or.inr ⟨e, hen, ?_, ⟨g2, x, g4.1, g4.2⟩, hx⟩
      unfold M_Model_widths_L2
      rw [if_neg (nI_ge hen (by omega)), bd_e _ g1]
      rfl
/-- fault 2 on both sides: none, or at the same entry -/
theorem E_f2 (h : ST X s R n kind place who width term start firstPart partMany rulePlace sort predicate firstTerm termMany partPlace mterm) (hn : n ≤ 240) (hF : 480 < F) {ar re : Nat → Int32} (har : ∀ p, p < 10 → ar p = nI (arf X n p)) {f fp : Int32} : (M_Inspector_findFirst F kind who width term start (nI R) ar re 2 = some (-1) ∧ M_Model_widths F f fp (nI n) sort predicate termMany partPlace = some (1, f, fp) ∧ ∀ x, x < n → (X x).kd ≤ 2 → (X x).wd = arf X n (X x).pd) ∨ ∃ x, x < n ∧ M_Inspector_findFirst F kind who width term start (nI R) ar re 2 = some (nI x) ∧ M_Model_widths F f fp (nI n) sort predicate termMany partPlace = some (0, 2, nI (X x).pl) := by
  have hR := h.2.2.2.1
  have s0 := h.2.1
  have cl := S_first2 (F := F) (re := re) h hn hF har R 0 F (by omega) (by omega)
  have ml := S_w2 (F := F) (f := f) (fp := fp) h.1 hn hF n 0 F (by omega) (by omega) (fun x hx => absurd hx (Nat.not_lt_zero _))
  have cE : ∀ z, M_Inspector_findFirst_L2 F kind who width term start (nI R) ar re 2 F (nI 0) = some z → M_Inspector_findFirst F kind who width term start (nI R) ar re 2 = cs_ z (fun q4 => some (-1 : Int32)) (fun o => some o) := fun z hz => by
    unfold M_Inspector_findFirst
    exact bd_e (fun z3 => cs_ z3 (fun q4 => some (-1 : Int32)) (fun o => some o)) hz
  have mE : ∀ z, M_Model_widths_L2 F (nI n) sort predicate termMany partPlace F (nI 0) f fp = some z → M_Model_widths F f fp (nI n) sort predicate termMany partPlace = cs_ z (fun q11 => some ((1 : Int32), q11.1, q11.2)) (fun o => some o) := fun z hz => by
    unfold M_Model_widths
    exact bd_e (fun z10 => cs_ z10 (fun q11 => some ((1 : Int32), q11.1, q11.2)) (fun o => some o)) hz
  rcases ml with ⟨m1, m2⟩ | ⟨x, hx, m1, m2, m3⟩
  · have noc : ∀ x, x < n → ¬ w2c X n x := fun x hx z => m2 x hx ((w2_same hx (fun y hy => m2 y (by omega))).mpr z)
    rcases cl with ⟨c1, c2⟩ | ⟨y, c1, c2, c3, c4, c5⟩
    · exact Or.inl ⟨cE _ c1, mE _ m1, fun x hx hk => Classical.byContradiction (fun z => noc x hx ⟨hk, z⟩)⟩
    · exact absurd c4 (noc y c3)
  · have hc := (w2_same hx m3).mp m2
    have before : ∀ y, y < x → ¬ w2c X n y := fun y hy z => m3 y hy ((w2_same (by omega) (fun w hw => m3 w (by omega))).mpr z)
    rcases cl with ⟨c1, c2⟩ | ⟨y, c1, c2, c3, c4, c5⟩
    · exact absurd hc (c2 x (by rw [s0]; omega) hx)
    · have : y = x := by
        rcases Nat.lt_trichotomy x y with z | z | z
        · exact absurd hc (c5 x (by rw [s0]; omega) z)
        · exact z.symm
        · exact absurd c4 (before y z)
      subst this
      exact Or.inr ⟨y, hx, cE _ c1, mE _ m1⟩
end
