/-! the reference's dependence -/
def DB (depends : Nat → Int32) (D : Nat → Nat → Bool) : Prop := ∀ p q, p < 10 → q < 10 → depends (10 * p + q) = bI (D p q)
def DG (E : Nat → Nat → Prop) (D H : Nat → Nat → Bool) (f g : Int32) : Prop := (∀ p q, D p q = true → H p q = true) ∧ (g = 0 ∨ g = 1) ∧ (g = 0 → f = 0 ∧ H = D) ∧ (g = 1 → f = 1 ∨ ∃ p q, p < 10 ∧ q < 10 ∧ D p q = false ∧ H p q = true) ∧ (∀ Q : Nat → Nat → Prop, (∀ p q, D p q = true → Q p q) → (∀ h a q, E h a → Q a q → Q h q) → ∀ p q, H p q = true → Q p q)
theorem DG.refl {E : Nat → Nat → Prop} {D : Nat → Nat → Bool} {f : Int32} (hf : f = 0 ∨ f = 1) : DG E D D f f := ⟨fun _ _ h => h, hf, fun h => ⟨h, rfl⟩, fun h => Or.inl h, fun X h _ q k z => h q k z⟩
theorem DG.trans {E : Nat → Nat → Prop} {G H J : Nat → Nat → Bool} {f g h : Int32} (a : DG E G H f g) (b : DG E H J g h) : DG E G J f h := by
  obtain ⟨a1, a3, a4, a5, a6⟩ := a
  obtain ⟨b1, b3, b4, b5, b6⟩ := b
  refine ⟨fun q k z => b1 q k (a1 q k z), b3, fun z => ?_, fun z => ?_, fun X h1 h2 => b6 X (a6 X h1 h2) h2⟩
  · obtain ⟨c1, c2⟩ := b4 z
    obtain ⟨d1, d2⟩ := a4 c1
    exact ⟨d1, c2.trans d2⟩
  · rcases b5 z with c | ⟨q, k, c1, c2, c3, c4⟩
    · rcases a5 c with d | ⟨q, k, d1, d2, d3, d4⟩
      · exact Or.inl d
      · exact Or.inr ⟨q, k, d1, d2, d3, b1 q k d4⟩
    · refine Or.inr ⟨q, k, c1, c2, ?_, c4⟩
      cases hg : G q k with
      | false => rfl
      | true => rw [a1 q k hg] at c3; exact absurd c3 (by decide)
theorem x10 (a b : Nat) : (10 : Int32) * nI a + nI b = nI (10 * a + b) := by
  have : (10 : Int32) * nI a = nI (10 * a) := pk_mul 10 a
  rw [this, nI_add]
theorem DB_ad1 {depends : Nat → Int32} {D : Nat → Nat → Bool} {p q : Nat} (hp : p < 10) (hq : q < 10) (h : DB depends D) : DB (upd depends (10 * p + q) 1) (ad1 D p q) := fun a b ha hb => by
  by_cases c : a = p ∧ b = q
  · obtain ⟨rfl, rfl⟩ := c
    rw [pk_us, ad1_in]; rfl
  · rw [pk_un (by omega), h a b ha hb]
    simp [ad1, c]
section
variable {F : Nat} {X : Nat → En} {s : Nat → Nat} {R n : Nat} {kind place who width term start firstPart partMany rulePlace sort predicate firstTerm termMany partPlace mterm : Nat → Int32}
theorem S_isAtomM (h : SE X n kind place who width term sort predicate firstTerm termMany partPlace mterm) (hn : n ≤ 240) {e : Nat} (he : e < n) : M_Model_isAtom sort (nI e) = some (bI (decide ((X e).kd ≤ 2))) := by
  obtain ⟨a, b, c⟩ := h e he
  have k5 := a.1
  unfold M_Model_isAtom
  rw [gd_n _ (show e < 260 by omega) (by decide), nI_clamp (show e < 2 ^ 31 by omega), c.1]
  by_cases c2 : (X e).kd ≤ 2
  · rw [if_neg (show ¬ (1 : Int32) < nI ((X e).kd - 1) from nI_nlt (a := 1) (b := (X e).kd - 1) (by omega) (by decide)), decide_eq_true c2]; rfl
  · rw [if_pos (show (1 : Int32) < nI ((X e).kd - 1) from nI_lt (a := 1) (by omega) (by omega)), decide_eq_false c2]; rfl
theorem S_dep97 (h : SE X n kind place who width term sort predicate firstTerm termMany partPlace mterm) (hn : n ≤ 240) {e hd : Nat} (he : e < n) (hk : (X e).kd ≤ 2) (hh : hd < 10) {E : Nat → Nat → Prop} (hE : E hd (X e).pd) : ∀ (d j f : Nat) (y : Int32) (depends : Nat → Int32) (D : Nat → Nat → Bool), j + d = 10 → d < f → (y = 0 ∨ y = 1) → DB depends D → ∃ y' depends' D', M_Model_findDepends_L97 F sort predicate (nI e) (nI hd) f (nI j) y depends = some (y', depends') ∧ DB depends' D' ∧ DG E D D' y y' ∧ ∀ q, j ≤ q → q < 10 → D (X e).pd q = true → D' hd q = true
  | 0, j, f, y, depends, D, hj, hf, hy, hD => by
    obtain ⟨f, rfl⟩ : ∃ m, f = m + 1 := ⟨f - 1, by omega⟩
    have : j = 10 := by omega
    subst this
    unfold M_Model_findDepends_L97
    rw [if_pos (by decide +kernel)]
    exact ⟨_, _, D, rfl, hD, DG.refl hy, fun q h1 h2 => by omega⟩
  | d + 1, j, f, y, depends, D, hj, hf, hy, hD => by
    obtain ⟨f, rfl⟩ : ∃ m, f = m + 1 := ⟨f - 1, by omega⟩
    have hj2 : j < 10 := by omega
    obtain ⟨a, b, c⟩ := h e he
    have p10 := a.2.2.2.1 hk
    have n1 : vp_nar .boolean (1 : Int32) = 1 := by decide +kernel
    unfold M_Model_findDepends_L97
    rw [if_neg (show ¬ (10 : Int32) ≤ nI j from nI_ge (a := j) (b := 10) hj2 (by decide)), bd_e _ (S_isAtomM h hn he), decide_eq_true hk, if_neg bI_t, gd_n _ (show e < 260 by omega) (by decide), lt_e, nI_clamp (show e < 2 ^ 31 by omega), c.2.1 hk, x10, gd_n _ (show 10 * (X e).pd + j < 100 by omega) (by decide), lt_e, nI_clamp (show 10 * (X e).pd + j < 2 ^ 31 by omega), hD _ _ p10 hj2]
    cases h1 : D (X e).pd j with
    | false =>
      rw [if_pos bI_f, lt_e, nI_1]
      obtain ⟨y', dp', D', g1, g2, g3, g4⟩ := S_dep97 h hn he hk hh hE d (j + 1) f y depends D (by omega) (by omega) hy hD
      refine ⟨y', dp', D', g1, g2, g3, fun q q1 q2 q3 => ?_⟩
      by_cases cq : q = j
      · rw [cq, h1] at q3; exact absurd q3 (by decide)
      · exact g4 q (by omega) q2 q3
    | true =>
      rw [if_neg bI_t, x10, gd_n _ (show 10 * hd + j < 100 by omega) (by decide), lt_e, nI_clamp (show 10 * hd + j < 2 ^ 31 by omega), hD _ _ hh hj2]
      cases h2 : D hd j with
      | false =>
        rw [if_pos bI_f, gd_n _ (show 10 * hd + j < 100 by omega) (by decide), lt_e, lt_e, nI_1, n1]
        have hg : DG E D (ad1 D hd j) y 1 := ⟨fun p q z => ad1_mono z, Or.inr rfl, fun z => absurd z (by decide), fun _ => Or.inr ⟨hd, j, hh, hj2, h2, ad1_in _ _ _⟩, fun Q q1 q2 p q z => by
          by_cases cc : p = hd ∧ q = j
          · obtain ⟨rfl, rfl⟩ := cc
            exact q2 _ _ _ hE (q1 _ _ h1)
          · refine q1 p q ?_
            simpa [ad1, cc] using z⟩
        obtain ⟨y', dp', D', g1, g2, g3, g4⟩ := S_dep97 h hn he hk hh hE d (j + 1) f 1 _ _ (by omega) (by omega) (Or.inr rfl) (DB_ad1 hh hj2 hD)
        refine ⟨y', dp', D', g1, g2, hg.trans g3, fun q q1 q2 q3 => ?_⟩
        by_cases cq : q = j
        · subst cq; exact g3.1 _ _ (ad1_in _ _ _)
        · exact g4 q (by omega) q2 (ad1_mono q3)
      | true =>
        rw [if_neg bI_t, lt_e, nI_1]
        obtain ⟨y', dp', D', g1, g2, g3, g4⟩ := S_dep97 h hn he hk hh hE d (j + 1) f y depends D (by omega) (by omega) hy hD
        refine ⟨y', dp', D', g1, g2, g3, fun q q1 q2 q3 => ?_⟩
        by_cases cq : q = j
        · subst cq; exact g3.1 _ _ h2
        · exact g4 q (by omega) q2 q3
theorem ST.fp (h : ST X s R n kind place who width term start firstPart partMany rulePlace sort predicate firstTerm termMany partPlace mterm) {r : Nat} (hr : r < R) : firstPart r = nI (s r) ∧ firstPart r + partMany r = nI (s (r + 1) - 1) := by
  obtain ⟨b1, b2, b3, b4, b5, -⟩ := h.2.2.2.2.2 r hr
  refine ⟨b4, ?_⟩
  rw [b4, b5, nI_add]
  exact congrArg nI (by omega)
theorem S_dep76 (h : ST X s R n kind place who width term start firstPart partMany rulePlace sort predicate firstTerm termMany partPlace mterm) (hn : n ≤ 240) (hF : 480 < F) {r : Nat} (hr : r < R) : ∀ (d e f : Nat) (y : Int32) (depends : Nat → Int32) (D : Nat → Nat → Bool), e + d = s (r + 1) → s r < e → d < f → (y = 0 ∨ y = 1) → DB depends D → ∃ y' depends' D', M_Model_findDepends_L76 F firstPart partMany sort predicate (nI (X (s r)).pd) (nI r) f (nI e) y depends = some (y', depends') ∧ DB depends' D' ∧ DG (Ed X s R) D D' y y' ∧ ∀ x q, e ≤ x → x < s (r + 1) → (X x).kd ≤ 2 → q < 10 → D (X x).pd q = true → D' (X (s r)).pd q = true
  | 0, e, f, y, depends, D, he, hse, hf, hy, hD => by
    obtain ⟨f, rfl⟩ : ∃ m, f = m + 1 := ⟨f - 1, by omega⟩
    have e1 := h.fp hr
    have hR := h.2.2.2.1
    have e2 := (h.st (show r + 1 ≤ R by omega)).2
    unfold M_Model_findDepends_L76
    rw [gd_n _ (show r < 250 by omega) (by decide), gd_n _ (show r < 250 by omega) (by decide), lt_e, nI_clamp (show r < 2 ^ 31 by omega), e1.2, if_pos (nI_lt (by omega) (by omega))]
    exact ⟨_, _, D, rfl, hD, DG.refl hy, fun x q h1 h2 => by omega⟩
  | d + 1, e, f, y, depends, D, he, hse, hf, hy, hD => by
    obtain ⟨f, rfl⟩ : ∃ m, f = m + 1 := ⟨f - 1, by omega⟩
    have e1 := h.fp hr
    have hR := h.2.2.2.1
    have e2 := (h.st (show r + 1 ≤ R by omega)).2
    have hen : e < n := by omega
    obtain ⟨b1, b2, b3, b4, b5, b6, b7, b8⟩ := h.2.2.2.2.2 r hr
    have p10 := (h.1 (s r) (by omega)).1.2.2.2.1 (by omega)
    unfold M_Model_findDepends_L76
    rw [gd_n _ (show r < 250 by omega) (by decide), gd_n _ (show r < 250 by omega) (by decide), lt_e, nI_clamp (show r < 2 ^ 31 by omega), e1.2, if_neg (nI_nlt (a := s (r + 1) - 1) (b := e) (by omega) (by omega))]
    by_cases c : (X e).kd ≤ 2
    · obtain ⟨y1, dp1, D1, g1, g2, g3, g4⟩ := S_dep97 (F := F) h.1 hn hen c p10 (E := Ed X s R) ⟨r, hr, rfl, e, hse, by omega, c, rfl⟩ 10 0 F y depends D rfl (by omega) hy hD
      have g1 : M_Model_findDepends_L97 F sort predicate (nI e) (nI (X (s r)).pd) F (0 : Int32) y depends = _ := g1
      obtain ⟨y2, dp2, D2, k1, k2, k3, k4⟩ := S_dep76 h hn hF hr d (e + 1) f y1 dp1 D1 (by omega) (by omega) (by omega) g3.2.1 g2
      rw [bd_e _ g1, lt_e, nI_1]
      refine ⟨y2, dp2, D2, k1, k2, g3.trans k3, fun x q x1 x2 x3 x4 x5 => ?_⟩
      by_cases cx : x = e
      · subst cx; exact k3.1 _ _ (g4 q (Nat.zero_le _) x4 x5)
      · exact k4 x q (by omega) x2 x3 x4 (g3.1 _ _ x5)
    · have g1 : M_Model_findDepends_L97 F sort predicate (nI e) (nI (X (s r)).pd) F (0 : Int32) y depends = some (y, depends) := by
        obtain ⟨k, hk⟩ : ∃ k, F = k + 1 := ⟨F - 1, by omega⟩
        conv => lhs; rw [hk]
        unfold M_Model_findDepends_L97
        rw [if_neg (by decide), bd_e _ (S_isAtomM h.1 hn hen), decide_eq_false c, if_pos bI_f]
      obtain ⟨y2, dp2, D2, k1, k2, k3, k4⟩ := S_dep76 h hn hF hr d (e + 1) f y depends D (by omega) (by omega) (by omega) hy hD
      rw [bd_e _ g1, lt_e, nI_1]
      refine ⟨y2, dp2, D2, k1, k2, k3, fun x q x1 x2 x3 x4 x5 => ?_⟩
      by_cases cx : x = e
      · subst cx; exact absurd x3 c
      · exact k4 x q (by omega) x2 x3 x4 x5
theorem S_dep46 (h : ST X s R n kind place who width term start firstPart partMany rulePlace sort predicate firstTerm termMany partPlace mterm) (hn : n ≤ 240) (hF : 480 < F) : ∀ (d j f : Nat) (y : Int32) (depends : Nat → Int32) (D : Nat → Nat → Bool), j + d = R → d < f → (y = 0 ∨ y = 1) → DB depends D → ∃ y' depends' D', M_Model_findDepends_L46 F (nI R) firstPart partMany sort predicate f (nI j) y depends = some (y', depends') ∧ DB depends' D' ∧ DG (Ed X s R) D D' y y' ∧ ∀ r x q, j ≤ r → r < R → s r < x → x < s (r + 1) → (X x).kd ≤ 2 → q < 10 → D (X x).pd q = true → D' (X (s r)).pd q = true
  | 0, j, f, y, depends, D, hj, hf, hy, hD => by
    obtain ⟨f, rfl⟩ : ∃ m, f = m + 1 := ⟨f - 1, by omega⟩
    have hR := h.2.2.2.1
    unfold M_Model_findDepends_L46
    rw [if_pos (nI_le (by omega) (by omega))]
    exact ⟨_, _, D, rfl, hD, DG.refl hy, fun r x q h1 h2 => by omega⟩
  | d + 1, j, f, y, depends, D, hj, hf, hy, hD => by
    obtain ⟨f, rfl⟩ : ∃ m, f = m + 1 := ⟨f - 1, by omega⟩
    have hR := h.2.2.2.1
    have hjR : j < R := by omega
    have e1 := h.fp hjR
    have e2 := (h.st (show j + 1 ≤ R by omega)).2
    obtain ⟨b1, b2, b3, b4, b5, b6, b7, b8⟩ := h.2.2.2.2.2 j hjR
    obtain ⟨a, b, c⟩ := h.1 (s j) (by omega)
    obtain ⟨y1, dp1, D1, g1, g2, g3, g4⟩ := S_dep76 (F := F) h hn hF hjR (s (j + 1) - (s j + 1)) (s j + 1) F y depends D (by omega) (by omega) (by omega) hy hD
    obtain ⟨y2, dp2, D2, k1, k2, k3, k4⟩ := S_dep46 h hn hF d (j + 1) f y1 dp1 D1 (by omega) (by omega) g3.2.1 g2
    unfold M_Model_findDepends_L46
    rw [if_neg (nI_ge (a := j) (b := R) hjR (by omega)), gd_n _ (show j < 250 by omega) (by decide), nI_clamp (show j < 2 ^ 31 by omega), e1.1, gd_n _ (show s j < 260 by omega) (by decide), lt_e, nI_clamp (show s j < 2 ^ 31 by omega), c.2.1 (by omega), gd_n _ (show j < 250 by omega) (by decide), lt_e, nI_1, bd_e _ g1, lt_e, nI_1]
    refine ⟨y2, dp2, D2, k1, k2, g3.trans k3, fun r x q r1 r2 x1 x2 x3 x4 x5 => ?_⟩
    by_cases cr : r = j
    · subst cr; exact k3.1 _ _ (g4 x q (by omega) x2 x3 x4 x5)
    · exact k4 r x q (by omega) r2 x1 x2 x3 x4 (g3.1 _ _ x5)
def tot100 (G : Nat → Nat → Bool) : Nat := ct (fun f => G (f / 10) (f % 10)) 100
theorem tot100_lt {G H : Nat → Nat → Bool} (h : ∀ q k, G q k = true → H q k = true) {q k : Nat} (hq : q < 10) (hk : k < 10) (h1 : G q k = false) (h2 : H q k = true) : tot100 G < tot100 H := by
  have e1 : (10 * q + k) / 10 = q := by omega
  have e2 : (10 * q + k) % 10 = k := by omega
  refine ct_more (k := 10 * q + k) (fun n z => h _ _ z) ?_ ?_ (by omega)
  · show G ((10 * q + k) / 10) ((10 * q + k) % 10) = false
    rw [e1, e2]; exact h1
  · show H ((10 * q + k) / 10) ((10 * q + k) % 10) = true
    rw [e1, e2]; exact h2
theorem S_dep38 (h : ST X s R n kind place who width term start firstPart partMany rulePlace sort predicate firstTerm termMany partPlace mterm) (hn : n ≤ 240) (hF : 480 < F) : ∀ (d f : Nat) (depends : Nat → Int32) (D : Nat → Nat → Bool), tot100 D + d = 100 → d + 1 < f → DB depends D → ∃ depends' D', M_Model_findDepends_L38 F (nI R) firstPart partMany sort predicate f 1 depends = some depends' ∧ DB depends' D' ∧ (∀ p q, D p q = true → D' p q = true) ∧ (∀ Q : Nat → Nat → Prop, (∀ p q, D p q = true → Q p q) → (∀ h a q, Ed X s R h a → Q a q → Q h q) → ∀ p q, D' p q = true → Q p q) ∧ ∀ a b q, Ed X s R a b → q < 10 → D' b q = true → D' a q = true := fun d => by
  induction d using Nat.strongRecOn with
  | ind d ih =>
    intro f depends D hd hf hD
    obtain ⟨f, rfl⟩ : ∃ m, f = m + 1 := ⟨f - 1, by omega⟩
    have hR := h.2.2.2.1
    obtain ⟨y1, dp1, D1, g1, g2, g3, g4⟩ := S_dep46 (F := F) h hn hF R 0 F 0 depends D (by omega) (by omega) (Or.inl rfl) hD
    have g1 : M_Model_findDepends_L46 F (nI R) firstPart partMany sort predicate F (0 : Int32) (0 : Int32) depends = _ := g1
    unfold M_Model_findDepends_L38
    rw [if_neg (by decide), bd_e _ g1]
    rcases g3.2.1 with z | z
    · obtain ⟨-, eD⟩ := g3.2.2.1 z
      subst z
      subst eD
      obtain ⟨f, rfl⟩ : ∃ m, f = m + 1 := ⟨f - 1, by omega⟩
      refine ⟨dp1, D1, ?_, g2, fun _ _ y => y, fun Q q1 _ => q1, fun a b q hE hq y => ?_⟩
      · show M_Model_findDepends_L38 F (nI R) firstPart partMany sort predicate (f + 1) 0 dp1 = _
        unfold M_Model_findDepends_L38
        rw [if_pos rfl]
      · obtain ⟨r, hr, rfl, x, x1, x2, x3, rfl⟩ := hE
        exact g4 r x q (Nat.zero_le _) hr x1 x2 x3 hq y
    · subst z
      rcases g3.2.2.2.1 rfl with z | ⟨p, q, z1, z2, z3, z4⟩
      · exact absurd z (by decide)
      · have t1 := tot100_lt g3.1 z1 z2 z3 z4
        have t2 : tot100 D1 ≤ 100 := ct_le _ _
        obtain ⟨dp2, D2, k1, k2, k3, k4, k5⟩ := ih (100 - tot100 D1) (by omega) f dp1 D1 (by omega) (by omega) g2
        exact ⟨dp2, D2, k1, k2, fun p q y => k3 p q (g3.1 p q y), fun Q q1 q2 => k4 Q (g3.2.2.2.2 Q q1 q2) q2, k5⟩
theorem S_dep2 : ∀ (d j f : Nat) (depends : Nat → Int32), j + d = 100 → d < f → (∀ k, k < j → depends k = bI (decide (k / 10 = k % 10))) → ∃ depends', M_Model_findDepends_L2 F f (nI j) depends = some depends' ∧ ∀ k, k < 100 → depends' k = bI (decide (k / 10 = k % 10))
  | 0, j, f, depends, hj, hf, h => by
    obtain ⟨f, rfl⟩ : ∃ m, f = m + 1 := ⟨f - 1, by omega⟩
    have : j = 100 := by omega
    subst this
    unfold M_Model_findDepends_L2
    rw [if_pos (by decide +kernel)]
    exact ⟨depends, rfl, h⟩
  | d + 1, j, f, depends, hj, hf, h => by
    obtain ⟨f, rfl⟩ : ∃ m, f = m + 1 := ⟨f - 1, by omega⟩
    have hj2 : j < 100 := by omega
    have n1 : vp_nar .boolean (1 : Int32) = 1 := by decide +kernel
    have n0 : vp_nar .boolean (0 : Int32) = 0 := by decide +kernel
    have ed : nI j / (10 : Int32) = nI (j / 10) := pk_div (d := 10) (by omega) (by decide) (by decide)
    have er : nI j - nI (j / 10) * (10 : Int32) = nI (j % 10) := by
      have := pk_rem (a := j) (d := 10) (by omega) (by decide) (by decide)
      rw [← ed]
      exact this
    unfold M_Model_findDepends_L2
    rw [if_neg (show ¬ (100 : Int32) ≤ nI j from nI_ge (a := j) (b := 100) hj2 (by decide)), ed, er]
    have rec1 : ∀ x, x = bI (decide (j / 10 = j % 10)) → ∀ k, k < j + 1 → (upd depends j x) k = bI (decide (k / 10 = k % 10)) := fun x hx k hk => by
      by_cases c : k = j
      · rw [c, pk_us, hx]
      · rw [pk_un c]; exact h k (by omega)
    by_cases c : j / 10 = j % 10
    · rw [if_pos (congrArg nI c), gd_n _ hj2 (by decide), lt_e, lt_e, nI_1, nI_clamp (show j < 2 ^ 31 by omega), n1]
      exact S_dep2 d (j + 1) f _ (by omega) (by omega) (rec1 1 (by rw [decide_eq_true c]; rfl))
    · rw [if_neg (fun z => c ((nI_eq (by omega) (by omega)).mp z)), gd_n _ hj2 (by decide), lt_e, lt_e, nI_1, nI_clamp (show j < 2 ^ 31 by omega), n0]
      exact S_dep2 d (j + 1) f _ (by omega) (by omega) (rec1 0 (by rw [decide_eq_false c]; rfl))
/-- the reference's dependence is the class' -/
theorem S_findDep (h : ST X s R n kind place who width term start firstPart partMany rulePlace sort predicate firstTerm termMany partPlace mterm) (hn : n ≤ 240) (hF : 480 < F) {re depends : Nat → Int32} (r1 : ∀ p, p < 10 → bt (re p) p = true) (r2 : ∀ p q, p < 10 → q < 32 → Ed X s R p q → bt (re p) q = true) (r3 : ∀ k p b, k < 10 → p < 10 → b < 32 → bt (re p) k = true → bt (re k) b = true → bt (re p) b = true) (r4 : ∀ Q : Nat → Nat → Prop, (∀ p, Q p p) → (∀ p q, Ed X s R p q → Q p q) → (∀ a b c, Q a b → Q b c → Q a c) → ∀ p b, p < 10 → b < 32 → bt (re p) b = true → Q p b) : ∃ depends', M_Model_findDepends F (nI R) firstPart partMany sort predicate depends = some depends' ∧ ∀ p q, p < 10 → q < 10 → depends' (10 * p + q) = bI (bt (re p) q) := by
  obtain ⟨dp0, e1, h1⟩ := S_dep2 (F := F) 100 0 F depends rfl (by omega) (fun k hk => absurd hk (Nat.not_lt_zero _))
  have e1 : M_Model_findDepends_L2 F F (0 : Int32) depends = some dp0 := e1
  have hD0 : DB dp0 (fun p q => decide (p = q)) := fun p q hp hq => by
    rw [h1 _ (by omega), show (10 * p + q) / 10 = p by omega, show (10 * p + q) % 10 = q by omega]
  obtain ⟨dp1, D, e2, g1, g2, g3, g4⟩ := S_dep38 (F := F) h hn hF (100 - tot100 (fun p q => decide (p = q))) F dp0 _ (by have : tot100 (fun p q => decide (p = q)) ≤ 100 := ct_le _ _; omega) (by omega) hD0
  -- an edge joins predicates below 10
  have e10 : ∀ a b, Ed X s R a b → a < 10 ∧ b < 10 := fun a b ⟨r, hr, h2, e, h3, h4, h5, h6⟩ => by
    obtain ⟨b1, b2, b3, b4, b5, b6, b7, b8⟩ := h.2.2.2.2.2 r hr
    have p1 := (h.1 (s r) (by omega)).1.2.2.2.1 (by omega)
    have p2 := (h.1 e (by omega)).1.2.2.2.1 h5
    omega
  refine ⟨dp1, by unfold M_Model_findDepends; rw [bd_e _ e1, bd_e _ e2], fun p q hp hq => ?_⟩
  rw [g1 p q hp hq]
  refine congrArg bI ?_
  have refl : ∀ p, D p p = true := fun p => g2 p p (by simp)
  have to : D p q = true → bt (re p) q = true := fun z => by
    have := g3 (fun a b => a < 10 → b < 10 → bt (re a) b = true) (fun a b y ha hb => by rw [decide_eq_true_iff] at y; rw [← y]; exact r1 a ha) (fun hd a b hE hQ ha hb => r3 a hd b (e10 _ _ hE).2 ha (by omega) (r2 hd a ha (by have := (e10 _ _ hE).2; omega) hE) (hQ (e10 _ _ hE).2 hb)) p q z
    exact this hp hq
  have tr : ∀ a b, D a b = true → ∀ c, c < 10 → D b c = true → D a c = true := fun a b z => g3 (fun a b => ∀ c, c < 10 → D b c = true → D a c = true) (fun a b y c hc w => by rw [decide_eq_true_iff] at y; rw [y]; exact w) (fun hd a b hE hQ c hc w => g4 hd a c hE hc (hQ c hc w)) a b z
  have back : bt (re p) q = true → D p q = true := fun z => by
    have := r4 (fun a b => b < 10 → D a b = true) (fun a _ => refl a) (fun a b hE hb => g4 a b b hE hb (refl b)) (fun a b c h1 h2 hc => by
      by_cases hb : b < 10
      · exact tr a b (h1 hb) c hc (h2 hc)
      · -- nothing below 10 is reached from beyond it
        refine absurd (h2 hc) (fun y => ?_)
        have := g3 (fun a b => a = b ∨ a < 10) (fun a b w => by rw [decide_eq_true_iff] at w; exact Or.inl w) (fun hd a b hE _ => Or.inr (e10 _ _ hE).1) b c y
        rcases this with w | w
        · omega
        · exact hb w) p q hp (by omega) z
    exact this hq
  cases hb : bt (re p) q with
  | true => exact back hb
  | false =>
    cases hd : D p q with
    | false => rfl
    | true => rw [to hd] at hb; exact absurd hb (by decide)
end
