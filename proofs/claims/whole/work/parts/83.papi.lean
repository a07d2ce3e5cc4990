/-- the two sides know the same predicates -/
def PRel (sort arity stratum kind width strat : Nat → Int32) : Prop := ∀ p, p < 10 → sort p = kind p ∧ arity p = width p ∧ stratum p = strat p ∧ ∃ w, w ≤ 3 ∧ width p = nI w
theorem neg1_lt : (-1 : Int32) < 0 := by decide
theorem S_hasNeg {row : Nat → Int32} (x0 : Int32) {x1 : Int32} (h : x1 < 0) : M_FactSet_has row x0 x1 = some 0 := by
  unfold M_FactSet_has
  by_cases h0 : x0 < 0
  · rw [if_pos h0]
  · rw [if_neg h0]
    by_cases h1 : (10 : Int32) ≤ x0
    · rw [if_pos h1]
    · rw [if_neg h1, if_pos h]
theorem nI_nm1 {n : Nat} (h : n < 2 ^ 31) : ¬ nI n = (-1 : Int32) := fun e => nI_pos h (by rw [e]; exact neg1_lt)
/-- a fact's number on both sides, for any four ints: none on both, or p and n -/
theorem E_num {sort arity stratum kind width strat : Nat → Int32} (hp : PRel sort arity stratum kind width strat) (x0 x1 x2 x3 : Int32) :
    (M_Program_number sort arity x0 x1 x2 x3 = some (-1) ∧ M_Model_place kind width x0 x1 x2 x3 = some (-1)) ∨
    ∃ p n, p < 10 ∧ n < 1728 ∧ x0 = nI p ∧ ¬ kind p = 0 ∧ M_Program_number sort arity x0 x1 x2 x3 = some (nI n) ∧ M_Model_place kind width x0 x1 x2 x3 = some (nI (1728 * p + n)) := by
  rcases x_cases x0 (n := 10) (by decide) with z | z | ⟨p, h10, rfl⟩
  · exact Or.inl ⟨S_numberNone (S_sortOut (Or.inl z)), S_placeOut (Or.inl z)⟩
  · exact Or.inl ⟨S_numberNone (S_sortOut (Or.inr z)), S_placeOut (Or.inr z)⟩
  · obtain ⟨e1, e2, e3, w, hw, ew⟩ := hp p h10
    by_cases hk : kind p = 0
    · exact Or.inl ⟨S_numberNone (by rw [S_sortOf h10, e1, hk]), S_placeUn h10 hk x1 x2 x3⟩
    · have a1 := S_number (sort := sort) (arity := arity) h10 (by rw [e1]; exact hk) (by rw [e2]; exact ew) hw x1 x2 x3
      have a2 := S_place (kind := kind) (width := width) h10 hk ew hw x1 x2 x3
      cases hn : nmb w x1 x2 x3 with
      | none => rw [hn] at a1 a2; exact Or.inl ⟨a1, a2⟩
      | some n =>
        rw [hn] at a1 a2
        exact Or.inr ⟨p, n, h10, nmb_lt hn, rfl, hk, a1, a2⟩
theorem E_holds {row holds sort arity stratum kind width strat : Nat → Int32} (hr : RS row holds) (hp : PRel sort arity stratum kind width strat) (th x0 x1 x2 x3 : Int32) : ∃ r, M_Hall_holds row sort arity x0 x1 x2 x3 = some r ∧ M_Model_holds th kind width holds x0 x1 x2 x3 = some (r, 0) := by
  unfold M_Hall_holds M_Model_holds
  rcases E_num hp x0 x1 x2 x3 with ⟨a1, a2⟩ | ⟨p, n, h10, hn, rfl, hk, a1, a2⟩
  · refine ⟨0, ?_, ?_⟩
    · rw [bd_e _ a1, bd_e _ (S_hasNeg x0 neg1_lt)]; rfl
    · rw [bd_e _ a2, if_pos rfl]
  · refine ⟨bI (fh row p n), ?_, ?_⟩
    · rw [bd_e _ a1, bd_e _ (S_has h10 hn), gz_b]
    · rw [bd_e _ a2, if_neg (nI_nm1 (by omega)), gd_n _ (show 1728 * p + n < 17280 by omega) (by decide), nI_clamp (by omega), hr p n h10 hn]
      cases fh row p n <;> rfl
theorem E_fault (found place th x : Int32) : ∃ r, M_Hall_fault found place x = some r ∧ M_Model_fault th found place x = some (r, 0) := by
  unfold M_Hall_fault M_Model_fault
  by_cases h0 : x = 0
  · exact ⟨found, by rw [if_pos h0]; rfl, by rw [if_pos h0]⟩
  · by_cases h1 : x = 1
    · exact ⟨place, by rw [if_neg h0, if_pos h1]; rfl, by rw [if_neg h0, if_pos h1]⟩
    · exact ⟨-1, by rw [if_neg h0, if_neg h1], by rw [if_neg h0, if_neg h1]⟩
theorem i_range {x : Int32} (h0 : ¬ x = 0) (h1 : ¬ x = 1) (h2 : ¬ x = 2) (h3 : ¬ x = 3) (a : ¬ x < 0) : ¬ x ≤ 3 := fun h => by
  obtain ⟨j, hj, rfl⟩ := nI_of2 (M := 3) (n := 3) (by decide) a h
  have : j = 0 ∨ j = 1 ∨ j = 2 ∨ j = 3 := by omega
  rcases this with rfl | rfl | rfl | rfl
  · exact h0 rfl
  · exact h1 rfl
  · exact h2 rfl
  · exact h3 rfl
theorem E_predicate {F : Nat} {row count holds sort arity stratum kind width strat : Nat → Int32} (h : FSok row count) (hr : RS row holds) (hp : PRel sort arity stratum kind width strat) (hF : 17280 < F) (th x0 x1 : Int32) : ∃ r, M_Hall_predicate count sort arity stratum x0 x1 = some r ∧ M_Model_predicate F th kind width strat holds x0 x1 = some (r, 0) := by
  unfold M_Hall_predicate M_Model_predicate
  rcases x_cases x0 (n := 10) (by decide) with z | z | ⟨p, h10, rfl⟩
  · exact ⟨-1, by rw [if_pos z], by rw [if_pos z]⟩
  · by_cases h0 : x0 < 0
    · exact ⟨-1, by rw [if_pos h0], by rw [if_pos h0]⟩
    · have z1 : ¬ x0 < (10 : Int32) := fun q => by
        have z : (10 : Int32) ≤ x0 := z
        simp only [Int32.lt_iff_toInt_lt, Int32.le_iff_toInt_le] at q z
        omega
      exact ⟨-1, by rw [if_neg h0, if_neg z1], by rw [if_neg h0, if_pos (show (10 : Int32) ≤ x0 from z)]⟩
  · obtain ⟨e1, e2, e3, w, hw, ew⟩ := hp p h10
    have b1 : ¬ nI p < 0 := nI_pos (by omega)
    have b2 : nI p < (10 : Int32) := nI_lt h10 (by decide)
    have b3 : ¬ (10 : Int32) ≤ nI p := nI_ge h10 (by decide)
    have cl : (nI p).toNatClampNeg = p := nI_clamp (by omega)
    rw [if_neg b1, if_pos b2, if_neg b1, if_neg b3]
    by_cases q0 : x1 = 0
    · subst q0
      refine ⟨sort p, ?_, ?_⟩
      · rw [if_pos rfl, gd_n _ h10 (by decide), cl]
      · rw [if_neg (by decide), if_pos (by decide), if_pos rfl, gd_n _ h10 (by decide), cl, e1]
    · by_cases q1 : x1 = 1
      · subst q1
        refine ⟨arity p, ?_, ?_⟩
        · rw [if_neg (by decide), if_pos rfl, gd_n _ h10 (by decide), cl]
        · rw [if_neg (by decide), if_pos (by decide), if_neg (by decide), if_pos rfl, gd_n _ h10 (by decide), cl, e2]
      · by_cases q2 : x1 = 2
        · subst q2
          refine ⟨stratum p, ?_, ?_⟩
          · rw [if_neg (by decide), if_neg (by decide), if_pos rfl, gd_n _ h10 (by decide), cl]
          · rw [if_neg (by decide), if_pos (by decide), if_neg (by decide), if_neg (by decide), if_pos rfl, gd_n _ h10 (by decide), cl, e3]
        · by_cases q3 : x1 = 3
          · subst q3
            refine ⟨count p, ?_, ?_⟩
            · rw [if_neg (by decide), if_neg (by decide), if_neg (by decide), if_pos rfl, bd_e _ (S_size h10)]
            · rw [if_neg (by decide), if_pos (by decide), if_neg (by decide), if_neg (by decide), if_neg (by decide), bd_e _ (S_factCount h10 (by omega)), hr.ct h10 (Nat.le_refl 1728), h.2 p h10]
              rfl
          · refine ⟨-1, ?_, ?_⟩
            · rw [if_neg q0, if_neg q1, if_neg q2, if_neg q3]
            · by_cases a : x1 < 0
              · rw [if_pos a]
              · rw [if_neg a, if_neg (i_range q0 q1 q2 q3 a)]
