/-! the whole inspection, alike on both sides -/
section
variable {F : Nat} {X : Nat → En} {s : Nat → Nat} {R n : Nat} {kind place who width term start firstPart partMany rulePlace sort predicate firstTerm termMany partPlace mterm : Nat → Int32}
/-- what is known of a text without a fault -/
def GX (X : Nat → En) (s : Nat → Nat) (R n : Nat) (re : Nat → Int32) : Prop := (∀ x, x < n → (X x).kd ≤ 2 → (X x).wd = arf X n (X x).pd) ∧ (∀ j, j < R → (j < 16 ∧ s (j + 1) - s j - 1 ≤ 5 ∧ nvr X s j ≤ 4)) ∧ (∀ j, j < R → sfX X s j) ∧ (∀ j, j < R → ∀ x, s j < x → x < s (j + 1) → ¬ d5X X s re j x) ∧ (∀ p, p < 10 → bt (re p) p = true) ∧ (∀ p q, p < 10 → q < 32 → Ed X s R p q → bt (re p) q = true) ∧ ∀ k p b, k < 10 → p < 10 → b < 32 → bt (re p) k = true → bt (re k) b = true → bt (re p) b = true
theorem E_inspect (h : ST X s R n kind place who width term start firstPart partMany rulePlace sort predicate firstTerm termMany partPlace mterm) (hn : n ≤ 240) (h480 : tw_ X n ≤ 480) (hF : 480 < F) {tape : Nat → Int32} {len : Nat} {so ar re depends0 a3 a4 a5 a7 a8 a9 a10 a11 a12 : Nat → Int32} {f fp fd0 pl0 b a1 a2 a6 a13 z0 : Int32} (hsk : M_Model_skip F tape (nI len) 0 = some z0) (hL : M_Model_read_L24 F tape (nI len) depends0 F f fp z0 0 a3 a4 a5 0 a7 a8 a9 a10 a11 0 a12 = some (.inl (f, fp, b, nI R, firstPart, partMany, rulePlace, nI n, sort, predicate, firstTerm, termMany, partPlace, nI (tw_ X n), mterm))) : ∃ so' ar' re' dep, (∀ p, p < 10 → so' p = nI (sof X n p)) ∧ (∀ p, p < 10 → ar' p = nI (arf X n p)) ∧
    ((∃ k x Q, 2 ≤ k ∧ k ≤ 5 ∧ x < n ∧ M_Inspector_inspect F fd0 pl0 kind place who width term start (nI n) (nI R) so ar re (-1) = some (nI k, nI (X x).pl, so', ar', re') ∧ M_Model_read F tape (nI len) f fp a1 a2 a3 a4 a5 a6 a7 a8 a9 a10 a11 a13 a12 depends0 = some (0, nI k, nI (X x).pl, Q)) ∨
    (M_Inspector_inspect F fd0 pl0 kind place who width term start (nI n) (nI R) so ar re (-1) = some (0, 0, so', ar', re') ∧ M_Model_read F tape (nI len) f fp a1 a2 a3 a4 a5 a6 a7 a8 a9 a10 a11 a13 a12 depends0 = some (1, f, fp, b, nI R, firstPart, partMany, rulePlace, nI n, sort, predicate, firstTerm, termMany, partPlace, nI (tw_ X n), mterm, dep) ∧ GX X s R n re')) := by
  obtain ⟨so', ar', re', e0, d1, d2, d3, d4, d5, d6⟩ := S_describe (F := F) (so := so) (ar := ar) (re := re) h hn hF
  obtain ⟨dep, f1, f2⟩ := S_findDep (F := F) (depends := depends0) h hn hF d3 d4 d5 d6
  refine ⟨so', ar', re', dep, d1, d2, ?_⟩
  have t00 : (0 : Int32) = 0 := rfl
  have t10 : ¬ (1 : Int32) = 0 := by decide
  have pl : ∀ x, x < n → place x = nI (X x).pl := fun x hx => (h.1 x hx).2.1.2.1
  have mb := Eq.refl (M_Model_read F tape (nI len) f fp a1 a2 a3 a4 a5 a6 a7 a8 a9 a10 a11 a13 a12 depends0)
  conv at mb =>
    rhs
    unfold M_Model_read
  rw [bd_e _ hsk] at mb
  have mb := mb.trans (bd_e _ hL)
  rw [csL] at mb
  have cb := Eq.refl (M_Inspector_inspect F fd0 pl0 kind place who width term start (nI n) (nI R) so ar re (-1))
  conv at cb =>
    rhs
    unfold M_Inspector_inspect
  rw [if_pos rfl, bd_e _ e0] at cb
  -- the class' loop, kind by kind
  have next : ∀ (k m : Nat), 2 ≤ k → k ≤ 5 → M_Inspector_findFirst F kind who width term start (nI R) ar' re' (nI k) = some (-1) → M_Inspector_inspect_L32 F kind place who width term start (nI R) ar' re' (m + 1) (nI k) 0 0 = M_Inspector_inspect_L32 F kind place who width term start (nI R) ar' re' m (nI (k + 1)) 0 0 := fun k m k2 k5 hk => by
    conv => lhs; unfold M_Inspector_inspect_L32
    rw [if_neg (show ¬ (5 : Int32) < nI k from nI_nlt (a := 5) (b := k) k5 (by decide)), if_pos t00, bd_e _ hk, if_pos rfl, lt_e, nI_1]
  have stop : ∀ (k m x : Nat), 2 ≤ k → k ≤ 5 → x < n → M_Inspector_findFirst F kind who width term start (nI R) ar' re' (nI k) = some (nI x) → M_Inspector_inspect_L32 F kind place who width term start (nI R) ar' re' (m + 2) (nI k) 0 0 = some (nI k, nI (X x).pl) := fun k m x k2 k5 hx hk => by
    unfold M_Inspector_inspect_L32
    rw [if_neg (show ¬ (5 : Int32) < nI k from nI_nlt (a := 5) (b := k) k5 (by decide)), if_pos t00, bd_e _ hk, if_neg (nI_nm1 (by omega)), gd_n _ (show x < 240 by omega) (by decide), lt_e, lt_e, nI_1, nI_clamp (show x < 2 ^ 31 by omega), pl x hx]
    unfold M_Inspector_inspect_L32
    by_cases c5 : 5 < k + 1
    · rw [if_pos (show (5 : Int32) < nI (k + 1) from nI_lt (a := 5) c5 (by omega))]
    · rw [if_neg (show ¬ (5 : Int32) < nI (k + 1) from nI_nlt (a := 5) (b := k + 1) (by omega) (by decide)), if_neg (show ¬ nI k = (0 : Int32) from fun z => by have := (nI_eq (a := k) (b := 0) (by omega) (by decide)).mp z; omega)]
  have fin : ∀ z, M_Inspector_inspect_L32 F kind place who width term start (nI R) ar' re' F (nI 2) 0 0 = some z → M_Inspector_inspect F fd0 pl0 kind place who width term start (nI n) (nI R) so ar re (-1) = some (z.1, z.2, so', ar', re') := fun z hz => by
    have hz : M_Inspector_inspect_L32 F kind place who width term start (nI R) ar' re' F (2 : Int32) (0 : Int32) (0 : Int32) = some z := hz
    rw [cb, bd_e _ hz]
  obtain ⟨m, hm⟩ : ∃ m, F = m + 6 := ⟨F - 6, by omega⟩
  have F1 : ∀ z, M_Inspector_inspect_L32 F kind place who width term start (nI R) ar' re' (m + 5 + 1) (nI 2) 0 0 = some z → M_Inspector_inspect F fd0 pl0 kind place who width term start (nI n) (nI R) so ar re (-1) = some (z.1, z.2, so', ar', re') := fun z hz => fin z (by rw [← hz, show m + 5 + 1 = F by omega])
  rcases E_f2 (F := F) (re := re') (f := f) (fp := fp) h hn hF d2 with ⟨g1, g2, g3⟩ | ⟨x, hx, g1, g2⟩
  · have n2 := next 2 (m + 5) (by decide) (by decide) g1
    rw [bd_e _ g2, if_neg t10] at mb
    rcases E_f3 (F := F) (ar := ar') (re := re') (f := f) (fp := fp) h hn h480 hF with ⟨h1, h2, h3⟩ | ⟨x, hx, h1, h2⟩
    · have n3 := next 3 (m + 4) (by decide) (by decide) h1
      rw [bd_e _ h2, if_neg t10] at mb
      rcases E_f4 (F := F) (ar := ar') (re := re') (f := f) (fp := fp) h hn h480 hF with ⟨i1, i2, i3⟩ | ⟨x, hx, i1, i2⟩
      · have n4 := next 4 (m + 3) (by decide) (by decide) i1
        rw [bd_e _ i2, if_neg t10] at mb
        rcases E_f5 (F := F) (ar := ar') (f := f) (fp := fp) h hn hF f2 f1 with ⟨j1, j2, j3⟩ | ⟨x, hx, j1, j2⟩
        · have n5 := next 5 (m + 2) (by decide) (by decide) j1
          have n6 : M_Inspector_inspect_L32 F kind place who width term start (nI R) ar' re' (m + 2) (nI 6) 0 0 = some (0, 0) := by
            unfold M_Inspector_inspect_L32
            rw [if_pos (by decide +kernel)]
          rw [bd_e _ j2, if_neg t10] at mb
          exact Or.inr ⟨F1 (0, 0) (n2.trans (n3.trans (n4.trans (n5.trans n6)))), mb, g3, h3, i3, j3, d3, d4, d5⟩
        · rw [bd_e _ j2, if_pos t00] at mb
          exact Or.inl ⟨5, x, _, by decide, by decide, hx, F1 _ (n2.trans (n3.trans (n4.trans (stop 5 (m + 1) x (by decide) (by decide) hx j1)))), mb⟩
      · rw [bd_e _ i2, if_pos t00] at mb
        exact Or.inl ⟨4, x, _, by decide, by decide, hx, F1 _ (n2.trans (n3.trans (stop 4 (m + 2) x (by decide) (by decide) hx i1))), mb⟩
    · rw [bd_e _ h2, if_pos t00] at mb
      exact Or.inl ⟨3, x, _, by decide, by decide, hx, F1 _ (n2.trans (stop 3 (m + 3) x (by decide) (by decide) hx h1)), mb⟩
  · rw [bd_e _ g2, if_pos t00] at mb
    exact Or.inl ⟨2, x, _, by decide, by decide, hx, F1 _ (stop 2 (m + 4) x (by decide) (by decide) hx g1), mb⟩
end
