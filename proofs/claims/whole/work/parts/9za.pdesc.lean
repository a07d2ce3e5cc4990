/-! what the predicates are, and which depend on which -/
/-- what predicate p is by the first m entries: 0 unknown, 1 BASE, 2 DERIVED -/
def sof (X : Nat → En) : Nat → Nat → Nat
  | 0, _ => 0
  | m + 1, p => if (X m).kd ≤ 2 ∧ (X m).pd = p then (if (X m).kd = 0 then 2 else if sof X m p = 0 then 1 else sof X m p) else sof X m p
/-- the terms of its first atom -/
def arf (X : Nat → En) : Nat → Nat → Nat
  | 0, _ => 0
  | m + 1, p => if ((X m).kd ≤ 2 ∧ (X m).pd = p) ∧ sof X m p = 0 then (X m).wd else arf X m p
theorem sof_le (X : Nat → En) : ∀ m p, sof X m p ≤ 2
  | 0, p => Nat.zero_le 2
  | m + 1, p => by
    have := sof_le X m p
    show (if (X m).kd ≤ 2 ∧ (X m).pd = p then (if (X m).kd = 0 then 2 else if sof X m p = 0 then 1 else sof X m p) else sof X m p) ≤ 2
    split
    · split
      · exact Nat.le_refl 2
      · split <;> omega
    · exact this
section
variable {F : Nat} {X : Nat → En} {s : Nat → Nat} {R n : Nat} {kind place who width term start firstPart partMany rulePlace sort predicate firstTerm termMany partPlace mterm : Nat → Int32}
theorem ST.st (h : ST X s R n kind place who width term start firstPart partMany rulePlace sort predicate firstTerm termMany partPlace mterm) {r : Nat} (hr : r ≤ R) : start r = nI (s r) ∧ s r ≤ n := by
  obtain ⟨a1, a2, a3, a4, a5, a6⟩ := h
  cases r with
  | zero => rw [a5, a2]; exact ⟨rfl, Nat.zero_le _⟩
  | succ r =>
    obtain ⟨b1, b2, b3, -⟩ := a6 r (by omega)
    exact ⟨b3, b2⟩
theorem S_isAtomX (h : SE X n kind place who width term sort predicate firstTerm termMany partPlace mterm) (hn : n ≤ 240) {e : Nat} (he : e < n) : M_Program_isAtom kind (nI e) = some (bI (decide ((X e).kd ≤ 2))) := by
  obtain ⟨a, b, c⟩ := h e he
  exact S_isAtom (by omega) a.1 b.1
theorem S_descAtom (h : SE X n kind place who width term sort predicate firstTerm termMany partPlace mterm) (hn : n ≤ 240) {e : Nat} (he : e < n) (hk : (X e).kd ≤ 2) {so ar : Nat → Int32} (hso : ∀ p, p < 10 → so p = nI (sof X e p)) (har : ∀ p, p < 10 → ar p = nI (arf X e p)) : ∃ so' ar', M_Program_describeAtom kind who width so ar (nI e) = some (so', ar') ∧ (∀ p, p < 10 → so' p = nI (sof X (e + 1) p)) ∧ ∀ p, p < 10 → ar' p = nI (arf X (e + 1) p) := by
  obtain ⟨⟨a1, a2, a3, a4, a5, a6⟩, ⟨b1, b2, b3, b4, b5⟩, c⟩ := h e he
  have p10 := a4 hk
  have sl := sof_le X e (X e).pd
  have e1 : ∀ p, sof X (e + 1) p = if (X e).kd ≤ 2 ∧ (X e).pd = p then (if (X e).kd = 0 then 2 else if sof X e p = 0 then 1 else sof X e p) else sof X e p := fun p => rfl
  have e2 : ∀ p, arf X (e + 1) p = if ((X e).kd ≤ 2 ∧ (X e).pd = p) ∧ sof X e p = 0 then (X e).wd else arf X e p := fun p => rfl
  have ek : nI (X e).kd = (0 : Int32) ↔ (X e).kd = 0 := nI_eq (b := 0) (by omega) (by decide)
  have es : nI (sof X e (X e).pd) = (0 : Int32) ↔ sof X e (X e).pd = 0 := nI_eq (b := 0) (by omega) (by decide)
  unfold M_Program_describeAtom
  rw [gd_n _ (show e < 240 by omega) (by decide), lt_e, nI_clamp (show e < 2 ^ 31 by omega), b4 hk, gd_n _ p10 (by decide), nI_clamp (show (X e).pd < 2 ^ 31 by omega), hso _ p10, b1, b3]
  by_cases c1 : sof X e (X e).pd = 0
  · rw [if_pos (es.mpr c1), gd_n _ p10 (by decide), lt_e, gd_n _ (show e < 240 by omega) (by decide), gd_n _ p10 (by decide), lt_e, gd_n _ (show e < 240 by omega) (by decide)]
    have har' : ∀ p, p < 10 → (upd ar (X e).pd (nI (X e).wd)) p = nI (arf X (e + 1) p) := fun p hp => by
      rw [e2]
      by_cases c : p = (X e).pd
      · rw [c, pk_us, if_pos ⟨⟨hk, rfl⟩, c1⟩]
      · rw [pk_un c, if_neg (fun z => c z.1.2.symm)]
        exact har p hp
    by_cases c2 : (X e).kd = 0
    · rw [if_pos (ek.mpr c2), gd_n _ p10 (by decide), lt_e]
      refine ⟨_, _, rfl, fun p hp => ?_, har'⟩
      rw [e1]
      by_cases c : p = (X e).pd
      · rw [c, pk_us, if_pos ⟨hk, rfl⟩, if_pos c2]; rfl
      · rw [pk_un c, pk_un c, if_neg (fun z => c z.2.symm)]
        exact hso p hp
    · rw [if_neg (fun z => c2 (ek.mp z))]
      refine ⟨_, _, rfl, fun p hp => ?_, har'⟩
      rw [e1]
      by_cases c : p = (X e).pd
      · rw [c, pk_us, if_pos ⟨hk, rfl⟩, if_neg c2, if_pos c1]; rfl
      · rw [pk_un c, if_neg (fun z => c z.2.symm)]
        exact hso p hp
  · rw [if_neg (fun z => c1 (es.mp z)), gd_n _ (show e < 240 by omega) (by decide)]
    have har' : ∀ p, p < 10 → ar p = nI (arf X (e + 1) p) := fun p hp => by
      rw [e2, if_neg (fun z => ?_)]
      · exact har p hp
      · have := z.2
        rw [← z.1.2] at this
        exact c1 this
    by_cases c2 : (X e).kd = 0
    · rw [if_pos (ek.mpr c2), gd_n _ p10 (by decide), lt_e]
      refine ⟨_, _, rfl, fun p hp => ?_, har'⟩
      rw [e1]
      by_cases c : p = (X e).pd
      · rw [c, pk_us, if_pos ⟨hk, rfl⟩, if_pos c2]; rfl
      · rw [pk_un c, if_neg (fun z => c z.2.symm)]
        exact hso p hp
    · rw [if_neg (fun z => c2 (ek.mp z))]
      refine ⟨_, _, rfl, fun p hp => ?_, har'⟩
      rw [e1]
      by_cases c : p = (X e).pd
      · rw [c, if_pos ⟨hk, rfl⟩, if_neg c2, if_neg c1]
        exact hso _ p10
      · rw [if_neg (fun z => c z.2.symm)]
        exact hso p hp
theorem S_desc39 (h : SE X n kind place who width term sort predicate firstTerm termMany partPlace mterm) (hn : n ≤ 240) : ∀ (d j f : Nat) (so ar : Nat → Int32), j + d = n → d < f → (∀ p, p < 10 → so p = nI (sof X j p)) → (∀ p, p < 10 → ar p = nI (arf X j p)) → ∃ so' ar', M_Program_describePredicates_L39 F kind who width (nI n) f (nI j) so ar = some (so', ar') ∧ (∀ p, p < 10 → so' p = nI (sof X n p)) ∧ ∀ p, p < 10 → ar' p = nI (arf X n p)
  | 0, j, f, so, ar, hj, hf, h1, h2 => by
    obtain ⟨f, rfl⟩ : ∃ m, f = m + 1 := ⟨f - 1, by omega⟩
    have : j = n := by omega
    subst this
    unfold M_Program_describePredicates_L39
    rw [if_pos (nI_le (Nat.le_refl j) (by omega))]
    exact ⟨so, ar, rfl, h1, h2⟩
  | d + 1, j, f, so, ar, hj, hf, h1, h2 => by
    obtain ⟨f, rfl⟩ : ∃ m, f = m + 1 := ⟨f - 1, by omega⟩
    unfold M_Program_describePredicates_L39
    rw [if_neg (nI_ge (a := j) (b := n) (by omega) (by omega)), bd_e _ (S_isAtomX h hn (show j < n by omega))]
    by_cases c : (X j).kd ≤ 2
    · obtain ⟨so', ar', e, g1, g2⟩ := S_descAtom h hn (show j < n by omega) c h1 h2
      rw [decide_eq_true c, if_neg bI_t, bd_e _ e, lt_e, nI_1]
      exact S_desc39 h hn d (j + 1) f so' ar' (by omega) (by omega) g1 g2
    · rw [decide_eq_false c, if_pos bI_f, lt_e, nI_1]
      exact S_desc39 h hn d (j + 1) f so ar (by omega) (by omega) (fun p hp => by rw [h1 p hp]; exact congrArg nI (if_neg (fun z => c z.1)).symm) (fun p hp => by rw [h2 p hp]; exact congrArg nI (if_neg (fun z => c z.1.1)).symm)
theorem S_desc2 : ∀ (d j f : Nat) (so ar re : Nat → Int32), j + d = 10 → d < f → (∀ p, p < j → so p = 0 ∧ ar p = 0 ∧ ∀ b, b < 32 → bt (re p) b = decide (b = p)) → ∃ so' ar' re', M_Program_describePredicates_L2 F f (nI j) so ar re = some (so', ar', re') ∧ ∀ p, p < 10 → so' p = 0 ∧ ar' p = 0 ∧ ∀ b, b < 32 → bt (re' p) b = decide (b = p)
  | 0, j, f, so, ar, re, hj, hf, h => by
    obtain ⟨f, rfl⟩ : ∃ m, f = m + 1 := ⟨f - 1, by omega⟩
    have : j = 10 := by omega
    subst this
    unfold M_Program_describePredicates_L2
    rw [if_pos (by decide +kernel)]
    exact ⟨so, ar, re, rfl, h⟩
  | d + 1, j, f, so, ar, re, hj, hf, h => by
    obtain ⟨f, rfl⟩ : ∃ m, f = m + 1 := ⟨f - 1, by omega⟩
    have hj2 : j < 10 := by omega
    unfold M_Program_describePredicates_L2
    rw [if_neg (show ¬ (10 : Int32) ≤ nI j from nI_ge (a := j) (b := 10) hj2 (by decide)), gd_n _ hj2 (by decide), lt_e, gd_n _ hj2 (by decide), lt_e, gd_n _ hj2 (by decide), lt_e, lt_e, nI_1, nI_clamp (show j < 2 ^ 31 by omega)]
    refine S_desc2 d (j + 1) f _ _ _ (by omega) (by omega) (fun p hp => ?_)
    by_cases c : p = j
    · subst c
      rw [pk_us, pk_us, pk_us]
      exact ⟨rfl, rfl, fun b hb => bt_one p (by omega) b hb⟩
    · rw [pk_un c, pk_un c, pk_un c]
      exact h p (by omega)
/-- a rule of p has an atom of q in its body -/
def Ed (X : Nat → En) (s : Nat → Nat) (R p q : Nat) : Prop := ∃ r, r < R ∧ (X (s r)).pd = p ∧ ∃ e, s r < e ∧ e < s (r + 1) ∧ (X e).kd ≤ 2 ∧ (X e).pd = q
theorem S_reach21 (h : ST X s R n kind place who width term start firstPart partMany rulePlace sort predicate firstTerm termMany partPlace mterm) (hn : n ≤ 240) {r : Nat} (hr : r < R) : ∀ (d e f : Nat) (re : Nat → Int32), e + d = s (r + 1) → s r < e → d < f → ∃ re', M_Program_closeReach_L21 F kind who start (nI (s r)) (nI r) f (nI e) re = some re' ∧ ∀ p b, p < 10 → b < 32 → (bt (re' p) b = true ↔ (bt (re p) b = true ∨ (p = (X (s r)).pd ∧ ∃ x, e ≤ x ∧ x < s (r + 1) ∧ (X x).kd ≤ 2 ∧ (X x).pd = b)))
  | 0, e, f, re, he, hse, hf => by
    obtain ⟨f, rfl⟩ : ∃ m, f = m + 1 := ⟨f - 1, by omega⟩
    have e1 := (h.st (show r + 1 ≤ R by omega))
    have hR := h.2.2.2.1
    unfold M_Program_closeReach_L21
    rw [nI_1, gd_n _ (show r + 1 < 241 by omega) (by decide), lt_e, nI_clamp (show r + 1 < 2 ^ 31 by omega), e1.1, if_pos (nI_le (by omega) (by omega))]
    exact ⟨re, rfl, fun p b _ _ => ⟨fun z => Or.inl z, fun z => z.elim id (fun ⟨_, x, h1, h2, _⟩ => by omega)⟩⟩
  | d + 1, e, f, re, he, hse, hf => by
    obtain ⟨f, rfl⟩ : ∃ m, f = m + 1 := ⟨f - 1, by omega⟩
    have e1 := (h.st (show r + 1 ≤ R by omega))
    have hR := h.2.2.2.1
    have hen : e < n := by omega
    have hsn : s r < n := by omega
    obtain ⟨b1, b2, b3, b4, b5, b6, b7, b8⟩ := h.2.2.2.2.2 r hr
    obtain ⟨⟨a1, a2, a3, a4, a5, a6⟩, ⟨c1, c2, c3, c4, c5⟩, -⟩ := h.1 e hen
    obtain ⟨⟨-, -, -, A4, -, -⟩, ⟨C1, C2, C3, C4, C5⟩, -⟩ := h.1 (s r) hsn
    have p10 := A4 (by omega)
    unfold M_Program_closeReach_L21
    rw [nI_1 r, gd_n _ (show r + 1 < 241 by omega) (by decide), lt_e, nI_clamp (show r + 1 < 2 ^ 31 by omega), e1.1, if_neg (nI_ge (a := e) (b := s (r + 1)) (by omega) (by omega)), bd_e _ (S_isAtomX h.1 hn hen)]
    by_cases c : (X e).kd ≤ 2
    · have q10 := a4 c
      rw [decide_eq_true c, if_neg bI_t, gd_n _ (show s r < 240 by omega) (by decide), nI_clamp (show s r < 2 ^ 31 by omega), C4 (by omega), gd_n _ p10 (by decide), lt_e, nI_clamp (show (X (s r)).pd < 2 ^ 31 by omega), gd_n _ (show e < 240 by omega) (by decide), lt_e, nI_clamp (show e < 2 ^ 31 by omega), c4 c, gd_n _ p10 (by decide), lt_e, lt_e, nI_1]
      obtain ⟨re', g1, g2⟩ := S_reach21 h hn hr d (e + 1) f _ (by omega) (by omega) (by omega)
      refine ⟨re', g1, fun p b hp hb => (g2 p b hp hb).trans ?_⟩
      by_cases cp : p = (X (s r)).pd
      · rw [cp, pk_us, b_or, Bool.or_eq_true, bt_one _ (by omega) b hb, decide_eq_true_iff]
        constructor
        · rintro ((z | z) | ⟨_, x, h1, h2, h3⟩)
          · exact Or.inl z
          · exact Or.inr ⟨rfl, e, Nat.le_refl e, by omega, c, z.symm⟩
          · exact Or.inr ⟨rfl, x, by omega, h2, h3⟩
        · rintro (z | ⟨_, x, h1, h2, h3, h4⟩)
          · exact Or.inl (Or.inl z)
          · by_cases ex : x = e
            · subst ex; exact Or.inl (Or.inr h4.symm)
            · exact Or.inr ⟨rfl, x, by omega, h2, h3, h4⟩
      · rw [pk_un cp]
        exact ⟨fun z => z.elim Or.inl (fun y => absurd y.1 cp), fun z => z.elim Or.inl (fun y => absurd y.1 cp)⟩
    · rw [decide_eq_false c, if_pos bI_f, lt_e, nI_1]
      obtain ⟨re', g1, g2⟩ := S_reach21 h hn hr d (e + 1) f re (by omega) (by omega) (by omega)
      refine ⟨re', g1, fun p b hp hb => (g2 p b hp hb).trans ?_⟩
      constructor
      · rintro (z | ⟨h0, x, h1, h2, h3⟩)
        · exact Or.inl z
        · exact Or.inr ⟨h0, x, by omega, h2, h3⟩
      · rintro (z | ⟨h0, x, h1, h2, h3, h4⟩)
        · exact Or.inl z
        · have : x ≠ e := fun y => c (y ▸ h3)
          exact Or.inr ⟨h0, x, by omega, h2, h3, h4⟩
theorem S_reach2 (h : ST X s R n kind place who width term start firstPart partMany rulePlace sort predicate firstTerm termMany partPlace mterm) (hn : n ≤ 240) (hF : 480 < F) : ∀ (d j f : Nat) (re : Nat → Int32), j + d = R → d < f → ∃ re', M_Program_closeReach_L2 F kind who start (nI R) f (nI j) re = some re' ∧ ∀ p b, p < 10 → b < 32 → (bt (re' p) b = true ↔ (bt (re p) b = true ∨ ∃ r, j ≤ r ∧ r < R ∧ (X (s r)).pd = p ∧ ∃ x, s r < x ∧ x < s (r + 1) ∧ (X x).kd ≤ 2 ∧ (X x).pd = b))
  | 0, j, f, re, hj, hf => by
    obtain ⟨f, rfl⟩ : ∃ m, f = m + 1 := ⟨f - 1, by omega⟩
    have hR := h.2.2.2.1
    unfold M_Program_closeReach_L2
    rw [if_pos (nI_le (by omega) (by omega))]
    exact ⟨re, rfl, fun p b _ _ => ⟨fun z => Or.inl z, fun z => z.elim id (fun ⟨r, h1, h2, _⟩ => by omega)⟩⟩
  | d + 1, j, f, re, hj, hf => by
    obtain ⟨f, rfl⟩ : ∃ m, f = m + 1 := ⟨f - 1, by omega⟩
    have hR := h.2.2.2.1
    have hjR : j < R := by omega
    have e0 := h.st (show j ≤ R by omega)
    have e1 := h.st (show j + 1 ≤ R by omega)
    obtain ⟨b1, -⟩ := h.2.2.2.2.2 j hjR
    obtain ⟨re1, f1, f2⟩ := S_reach21 (F := F) h hn hjR (s (j + 1) - (s j + 1)) (s j + 1) F re (by omega) (by omega) (by omega)
    obtain ⟨re2, g1, g2⟩ := S_reach2 h hn hF d (j + 1) f re1 (by omega) (by omega)
    unfold M_Program_closeReach_L2
    rw [if_neg (nI_ge (a := j) (b := R) hjR (by omega)), gd_n _ (show j < 241 by omega) (by decide), lt_e, lt_e, nI_clamp (show j < 2 ^ 31 by omega), e0.1, nI_1, bd_e _ f1, lt_e, nI_1]
    refine ⟨re2, g1, fun p b hp hb => (g2 p b hp hb).trans ?_⟩
    rw [f2 p b hp hb]
    constructor
    · rintro ((z | ⟨z1, x, z2, z3, z4⟩) | ⟨r, z1, z2⟩)
      · exact Or.inl z
      · exact Or.inr ⟨j, Nat.le_refl j, hjR, z1.symm, x, by omega, z3, z4⟩
      · exact Or.inr ⟨r, by omega, z2⟩
    · rintro (z | ⟨r, z1, z2, z3, x, z4, z5⟩)
      · exact Or.inl (Or.inl z)
      · by_cases c : r = j
        · subst c; exact Or.inl (Or.inr ⟨z3.symm, x, by omega, z5⟩)
        · exact Or.inr ⟨r, by omega, z2, z3, x, z4, z5⟩
/-- one middle of the closing -/
theorem S_reach85 {c : Nat} (hc : c < 10) : ∀ (d j f : Nat) (re re0 : Nat → Int32), j + d = 10 → d < f → bt (re0 c) c = true → (∀ p b, p < 10 → b < 32 → (bt (re p) b = true ↔ (bt (re0 p) b = true ∨ (p < j ∧ bt (re0 p) c = true ∧ bt (re0 c) b = true)))) → ∃ re', M_Program_closeReach_L85 F (nI c) f (nI j) re = some re' ∧ ∀ p b, p < 10 → b < 32 → (bt (re' p) b = true ↔ (bt (re0 p) b = true ∨ (bt (re0 p) c = true ∧ bt (re0 c) b = true)))
  | 0, j, f, re, re0, hj, hf, hcc, h => by
    obtain ⟨f, rfl⟩ : ∃ m, f = m + 1 := ⟨f - 1, by omega⟩
    have : j = 10 := by omega
    subst this
    unfold M_Program_closeReach_L85
    rw [if_pos (by decide +kernel)]
    exact ⟨re, rfl, fun p b hp hb => (h p b hp hb).trans ⟨fun z => z.elim Or.inl (fun y => Or.inr y.2), fun z => z.elim Or.inl (fun y => Or.inr ⟨hp, y⟩)⟩⟩
  | d + 1, j, f, re, re0, hj, hf, hcc, h => by
    obtain ⟨f, rfl⟩ : ∃ m, f = m + 1 := ⟨f - 1, by omega⟩
    have hj2 : j < 10 := by omega
    unfold M_Program_closeReach_L85
    rw [if_neg (show ¬ (10 : Int32) ≤ nI j from nI_ge (a := j) (b := 10) hj2 (by decide)), gd_n _ hj2 (by decide), lt_e, nI_clamp (show j < 2 ^ 31 by omega), nI_clamp (show c < 2 ^ 31 by omega)]
    have same : ∀ b, b < 32 → (bt (re c) b = true ↔ bt (re0 c) b = true) := fun b hb => by
      rw [h c b hc hb]
      exact ⟨fun z => z.elim id (fun y => y.2.2), Or.inl⟩
    have asked : bt (re j) c = true ↔ bt (re0 j) c = true := by
      rw [h j c hj2 (by omega)]
      exact ⟨fun z => z.elim id (fun y => y.2.1), Or.inl⟩
    by_cases ca : bt (re j) c = false
    · rw [if_pos ((bt_ask _ (by omega)).mpr ca), lt_e, nI_1]
      have n0 : ¬ bt (re0 j) c = true := fun z => by rw [asked.mpr z] at ca; exact absurd ca (by decide)
      refine S_reach85 hc d (j + 1) f re re0 (by omega) (by omega) hcc (fun p b hp hb => (h p b hp hb).trans ⟨fun z => z.elim Or.inl (fun y => Or.inr ⟨by omega, y.2⟩), fun z => z.elim Or.inl (fun y => ?_)⟩)
      by_cases e : p = j
      · subst e; exact absurd y.2.1 n0
      · exact Or.inr ⟨by omega, y.2⟩
    · rw [if_neg (fun z => ca ((bt_ask _ (by omega)).mp z)), gd_n _ hj2 (by decide), gd_n _ hc (by decide), lt_e, gd_n _ hj2 (by decide), lt_e, lt_e, nI_1]
      have y0 : bt (re0 j) c = true := asked.mp (by simpa using ca)
      refine S_reach85 hc d (j + 1) f _ re0 (by omega) (by omega) hcc (fun p b hp hb => ?_)
      by_cases e : p = j
      · subst e
        rw [pk_us, b_or, Bool.or_eq_true, same b hb, h p b hp hb]
        constructor
        · rintro ((z | z) | z)
          · exact Or.inl z
          · exact Or.inr ⟨by omega, z.2⟩
          · exact Or.inr ⟨by omega, y0, z⟩
        · rintro (z | z)
          · exact Or.inl (Or.inl z)
          · exact Or.inr z.2.2
      · rw [pk_un e, h p b hp hb]
        exact ⟨fun z => z.elim Or.inl (fun y => Or.inr ⟨by omega, y.2⟩), fun z => z.elim Or.inl (fun y => Or.inr ⟨by omega, y.2⟩)⟩
theorem S_reach77 {Q : Nat → Nat → Prop} (hQt : ∀ a b c, Q a b → Q b c → Q a c) : ∀ (d c f : Nat) (re : Nat → Int32), c + d = 10 → d < f → 10 < F → (∀ p, p < 10 → bt (re p) p = true) → (∀ p b, p < 10 → b < 32 → bt (re p) b = true → Q p b) → (∀ k p b, k < c → p < 10 → b < 32 → bt (re p) k = true → bt (re k) b = true → bt (re p) b = true) → ∃ re', M_Program_closeReach_L77 F f (nI c) re = some re' ∧ (∀ p b, p < 10 → b < 32 → bt (re p) b = true → bt (re' p) b = true) ∧ (∀ p b, p < 10 → b < 32 → bt (re' p) b = true → Q p b) ∧ ∀ k p b, k < 10 → p < 10 → b < 32 → bt (re' p) k = true → bt (re' k) b = true → bt (re' p) b = true
  | 0, c, f, re, hc, hf, hF, h1, h2, h3 => by
    obtain ⟨f, rfl⟩ : ∃ m, f = m + 1 := ⟨f - 1, by omega⟩
    have : c = 10 := by omega
    subst this
    unfold M_Program_closeReach_L77
    rw [if_pos (by decide +kernel)]
    exact ⟨re, rfl, fun _ _ _ _ z => z, h2, h3⟩
  | d + 1, c, f, re, hc, hf, hF, h1, h2, h3 => by
    obtain ⟨f, rfl⟩ : ∃ m, f = m + 1 := ⟨f - 1, by omega⟩
    have hc10 : c < 10 := by omega
    obtain ⟨re1, g1, g2⟩ := S_reach85 (F := F) hc10 10 0 F re re rfl hF (h1 c hc10) (fun p b _ _ => ⟨Or.inl, fun z => z.elim id (fun y => absurd y.1 (Nat.not_lt_zero _))⟩)
    have g1 : M_Program_closeReach_L85 F (nI c) F (0 : Int32) re = some re1 := g1
    have up : ∀ p b, p < 10 → b < 32 → bt (re p) b = true → bt (re1 p) b = true := fun p b hp hb z => (g2 p b hp hb).mpr (Or.inl z)
    obtain ⟨re2, k1, k2, k3, k4⟩ := S_reach77 hQt d (c + 1) f re1 (by omega) (by omega) hF (fun p hp => up p p hp (by omega) (h1 p hp)) (fun p b hp hb z => by
      rcases (g2 p b hp hb).mp z with y | ⟨y1, y2⟩
      · exact h2 p b hp hb y
      · exact hQt _ _ _ (h2 p c hp (by omega) y1) (h2 c b hc10 hb y2)) (fun k p b hk hp hb z1 z2 => by
      have hk10 : k < 10 := by omega
      have sc : ∀ x, x < 32 → (bt (re1 c) x = true ↔ bt (re c) x = true) := fun x hx => (g2 c x hc10 hx).trans ⟨fun z => z.elim id (fun y => y.2), Or.inl⟩
      by_cases e : k = c
      · subst e
        have z1' : bt (re p) k = true := ((g2 p k hp (by omega)).mp z1).elim id (fun y => y.1)
        exact (g2 p b hp hb).mpr (Or.inr ⟨z1', (sc b hb).mp z2⟩)
      · have hkc : k < c := by omega
        rcases (g2 p k hp (by omega)).mp z1 with y | ⟨y1, y2⟩
        · rcases (g2 k b hk10 hb).mp z2 with w | ⟨w1, w2⟩
          · exact up p b hp hb (h3 k p b hkc hp hb y w)
          · exact (g2 p b hp hb).mpr (Or.inr ⟨h3 k p c hkc hp (by omega) y w1, w2⟩)
        · rcases (g2 k b hk10 hb).mp z2 with w | ⟨w1, w2⟩
          · exact (g2 p b hp hb).mpr (Or.inr ⟨y1, h3 k c b hkc hc10 hb y2 w⟩)
          · exact (g2 p b hp hb).mpr (Or.inr ⟨y1, w2⟩))
    unfold M_Program_closeReach_L77
    rw [if_neg (show ¬ (10 : Int32) ≤ nI c from nI_ge (a := c) (b := 10) hc10 (by decide)), bd_e _ g1, lt_e, nI_1]
    exact ⟨re2, k1, fun p b hp hb z => k2 p b hp hb (up p b hp hb z), k3, k4⟩
/-- the class knows the predicates: what they are, their terms, and what they depend on -/
theorem S_describe (h : ST X s R n kind place who width term start firstPart partMany rulePlace sort predicate firstTerm termMany partPlace mterm) (hn : n ≤ 240) (hF : 480 < F) {so ar re : Nat → Int32} : ∃ so' ar' re', M_Program_describePredicates F kind who width start (nI n) (nI R) so ar re = some (so', ar', re') ∧ (∀ p, p < 10 → so' p = nI (sof X n p)) ∧ (∀ p, p < 10 → ar' p = nI (arf X n p)) ∧ (∀ p, p < 10 → bt (re' p) p = true) ∧ (∀ p q, p < 10 → q < 32 → Ed X s R p q → bt (re' p) q = true) ∧ (∀ k p b, k < 10 → p < 10 → b < 32 → bt (re' p) k = true → bt (re' k) b = true → bt (re' p) b = true) ∧ ∀ Q : Nat → Nat → Prop, (∀ p, Q p p) → (∀ p q, Ed X s R p q → Q p q) → (∀ a b c, Q a b → Q b c → Q a c) → ∀ p b, p < 10 → b < 32 → bt (re' p) b = true → Q p b := by
  have hR := h.2.2.2.1
  obtain ⟨so1, ar1, re1, e1, h1⟩ := S_desc2 (F := F) 10 0 F so ar re rfl (by omega) (fun p hp => absurd hp (Nat.not_lt_zero _))
  have e1 : M_Program_describePredicates_L2 F F (0 : Int32) so ar re = _ := e1
  obtain ⟨so2, ar2, e2, h2, h3⟩ := S_desc39 (F := F) h.1 hn n 0 F so1 ar1 (by omega) (by omega) (fun p hp => (h1 p hp).1) (fun p hp => (h1 p hp).2.1)
  have e2 : M_Program_describePredicates_L39 F kind who width (nI n) F (0 : Int32) so1 ar1 = _ := e2
  obtain ⟨re2, e3, h4⟩ := S_reach2 (F := F) h hn hF R 0 F re1 (by omega) (by omega)
  have e3 : M_Program_closeReach_L2 F kind who start (nI R) F (0 : Int32) re1 = _ := e3
  have refl2 : ∀ p, p < 10 → bt (re2 p) p = true := fun p hp => (h4 p p hp (by omega)).mpr (Or.inl (by rw [(h1 p hp).2.2 p (by omega)]; simp))
  -- the closing does not depend on what it is held against
  obtain ⟨re3, e4, k1, -, k3⟩ := S_reach77 (F := F) (Q := fun _ _ => True) (fun _ _ _ _ _ => trivial) 10 0 F re2 rfl (by omega) (by omega) refl2 (fun _ _ _ _ _ => trivial) (fun k p b hk => absurd hk (Nat.not_lt_zero _))
  have e4 : M_Program_closeReach_L77 F F (0 : Int32) re2 = some re3 := e4
  refine ⟨so2, ar2, re3, ?_, h2, h3, fun p hp => k1 p p hp (by omega) (refl2 p hp), fun p q hp hq hE => k1 p q hp hq ((h4 p q hp hq).mpr (Or.inr ?_)), k3, fun Q q1 q2 q3 p b hp hb z => ?_⟩
  · have ec : M_Program_closeReach F kind who start (nI R) re1 = some re3 := by
      unfold M_Program_closeReach
      rw [bd_e _ e3, bd_e _ e4]
    unfold M_Program_describePredicates
    rw [bd_e _ e1, bd_e _ e2, bd_e _ ec]
  · obtain ⟨r, hr, z1, z2⟩ := hE
    exact ⟨r, Nat.zero_le _, hr, z1, z2⟩
  · obtain ⟨re4, e5, -, j3, -⟩ := S_reach77 (F := F) (Q := Q) q3 10 0 F re2 rfl (by omega) (by omega) refl2 (fun p b hp hb y => by
      rcases (h4 p b hp hb).mp y with w | ⟨r, _, hr, w1, x, w2, w3, w4, w5⟩
      · rw [(h1 p hp).2.2 b hb, decide_eq_true_iff] at w
        rw [w]; exact q1 p
      · exact q2 p b ⟨r, hr, w1, x, w2, w3, w4, w5⟩) (fun k p b hk => absurd hk (Nat.not_lt_zero _))
    have e5 : M_Program_closeReach_L77 F F (0 : Int32) re2 = some re4 := e5
    rw [e4] at e5
    have := Option.some.inj e5
    rw [this] at z
    exact j3 p b hp hb z
end
