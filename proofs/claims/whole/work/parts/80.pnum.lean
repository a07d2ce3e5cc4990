/-! numbers of facts, on both sides -/
theorem bd_s {α β : Type} (v : α) (k : α → Option β) : bd_ (some v) k = k v := rfl
def isC (x : Int32) : Bool := decide (¬ x < 0 ∧ ¬ (12 : Int32) ≤ x)
theorem isC_n {x : Int32} (h : isC x = true) : x = nI x.toNatClampNeg ∧ x.toNatClampNeg < 12 := by
  unfold isC at h
  have h := of_decide_eq_true h
  rcases pk_ix x (n := 12) (by decide) with h1 | h1 | ⟨j, hj, e⟩
  · exact absurd h1 h.1
  · exact absurd h1 h.2
  · rw [e, nI_clamp (by omega)]; exact ⟨rfl, hj⟩
theorem S_isC1 (x : Int32) : M_Program_isConstant x = some (bI (isC x)) := by
  unfold M_Program_isConstant isC
  by_cases h1 : x < 0
  · simp [h1, bI]
  · by_cases h2 : (12 : Int32) ≤ x
    · simp [h2, bI]
    · simp [h1, h2, bI]
theorem S_isC2 (x : Int32) : M_Model_isConstant x = some (bI (isC x)) := by
  unfold M_Model_isConstant isC
  by_cases h1 : x < 0
  · simp [h1, bI]
  · by_cases h2 : (12 : Int32) ≤ x
    · simp [h2, bI]
    · simp [h1, h2, bI]
/-- the number of a fact of width w, if it is one -/
def nmb (w : Nat) (a b c : Int32) : Option Nat :=
  if w = 0 then some 0 else if isC a = false then none else if w = 1 then some a.toNatClampNeg else if isC b = false then none else if w = 2 then some (12 * a.toNatClampNeg + b.toNatClampNeg) else if isC c = false then none else some ((12 * a.toNatClampNeg + b.toNatClampNeg) * 12 + c.toNatClampNeg)
theorem nmb_lt {w : Nat} {a b c : Int32} {n : Nat} (h : nmb w a b c = some n) : n < 1728 := by
  unfold nmb at h
  split at h
  · cases h; decide
  · split at h
    · cases h
    · rename_i ha
      rw [Bool.not_eq_false] at ha
      have ha := (isC_n ha).2
      split at h
      · cases h; omega
      · split at h
        · cases h
        · rename_i hb
          rw [Bool.not_eq_false] at hb
          have hb := (isC_n hb).2
          split at h
          · cases h; omega
          · split at h
            · cases h
            · rename_i hc
              rw [Bool.not_eq_false] at hc
              have hc := (isC_n hc).2
              cases h; omega
/-- an Int32 for a number or none -/
def nO (o : Option Nat) : Int32 := match o with
  | none => -1
  | some n => nI n
theorem bI_t : ¬ bI true = 0 := by decide +kernel
theorem bI_f : bI false = 0 := rfl
theorem S_sortOf {sort : Nat → Int32} {p : Nat} (hp : p < 10) : M_Program_sortOf sort (nI p) = some (sort p) := by
  unfold M_Program_sortOf
  rw [if_neg (nI_pos (by omega)), if_neg (show ¬ (10 : Int32) ≤ nI p from nI_ge hp (by decide)), gd_n _ hp (by decide), nI_clamp (by omega)]
theorem S_sortOut {sort : Nat → Int32} {x : Int32} (h : x < 0 ∨ (10 : Int32) ≤ x) : M_Program_sortOf sort x = some 0 := by
  unfold M_Program_sortOf
  rcases h with h | h
  · rw [if_pos h]
  · by_cases h0 : x < 0
    · rw [if_pos h0]
    · rw [if_neg h0, if_pos h]
theorem S_numberNone {sort arity : Nat → Int32} {x a b c : Int32} (h : M_Program_sortOf sort x = some 0) : M_Program_number sort arity x a b c = some (-1) := by
  unfold M_Program_number
  rw [bd_e _ h, if_pos rfl]
theorem i12 {x : Int32} (h : isC x = true) : (12 : Int32) * x = nI (12 * x.toNatClampNeg) := by
  have e := (isC_n h).1
  have : (12 : Int32) * nI x.toNatClampNeg = nI (12 * x.toNatClampNeg) := pk_mul 12 _
  rw [← e] at this
  exact this
set_option maxHeartbeats 2000000 in
theorem S_number {sort arity : Nat → Int32} {p w : Nat} (hp : p < 10) (hs : ¬ sort p = 0) (ha : arity p = nI w) (hw : w ≤ 3) (a b c : Int32) : M_Program_number sort arity (nI p) a b c = some (nO (nmb w a b c)) := by
  unfold M_Program_number
  rw [bd_e _ (S_sortOf hp), if_neg hs, gd_n _ hp (by decide), lt_e, nI_clamp (show p < 2 ^ 31 by omega), ha]
  simp only [S_isC1, bd_s, lt_e]
  unfold nmb
  have hw4 : w = 0 ∨ w = 1 ∨ w = 2 ∨ w = 3 := by omega
  rcases hw4 with rfl | rfl | rfl | rfl
  · rw [if_pos (show nI 0 ≤ 0 by decide +kernel), if_pos (show nI 0 ≤ (1 : Int32) by decide +kernel), if_pos (show nI 0 ≤ (2 : Int32) by decide +kernel), if_pos (show nI 0 = (0 : Int32) from rfl), if_pos rfl]
    rfl
  · rw [if_neg (show ¬ nI 1 ≤ 0 by decide +kernel), if_neg (show ¬ (1 : Nat) = 0 by decide)]
    cases h1 : isC a with
    | false => rw [if_pos bI_f, if_pos rfl]; rfl
    | true =>
      rw [if_neg bI_t, if_neg (show ¬ (true = false) by decide), if_pos (show nI 1 ≤ (1 : Int32) by decide +kernel), if_pos (show nI 1 ≤ (2 : Int32) by decide +kernel), if_neg (show ¬ nI 1 = (0 : Int32) by decide +kernel), if_pos (show nI 1 = (1 : Int32) from rfl), if_pos rfl]
      exact congrArg some (isC_n h1).1
  · rw [if_neg (show ¬ nI 2 ≤ 0 by decide +kernel), if_neg (show ¬ (2 : Nat) = 0 by decide)]
    cases h1 : isC a with
    | false => rw [if_pos bI_f, if_pos rfl]; rfl
    | true =>
      rw [if_neg bI_t, if_neg (show ¬ (true = false) by decide), if_neg (show ¬ nI 2 ≤ (1 : Int32) by decide +kernel), if_neg (show ¬ (2 : Nat) = 1 by decide)]
      cases h2 : isC b with
      | false => rw [if_pos bI_f, if_pos rfl]; rfl
      | true =>
        rw [if_neg bI_t, if_neg (show ¬ (true = false) by decide), if_pos (show nI 2 ≤ (2 : Int32) by decide +kernel), if_neg (show ¬ nI 2 = (0 : Int32) by decide +kernel), if_neg (show ¬ nI 2 = (1 : Int32) by decide +kernel), if_pos (show nI 2 = (2 : Int32) from rfl), if_pos rfl, i12 h1]
        refine congrArg some ?_
        show nI (12 * a.toNatClampNeg) + b = nI (12 * a.toNatClampNeg + b.toNatClampNeg)
        rw [← nI_add, ← (isC_n h2).1]
  · rw [if_neg (show ¬ nI 3 ≤ 0 by decide +kernel), if_neg (show ¬ (3 : Nat) = 0 by decide)]
    cases h1 : isC a with
    | false => rw [if_pos bI_f, if_pos rfl]; rfl
    | true =>
      rw [if_neg bI_t, if_neg (show ¬ (true = false) by decide), if_neg (show ¬ nI 3 ≤ (1 : Int32) by decide +kernel), if_neg (show ¬ (3 : Nat) = 1 by decide)]
      cases h2 : isC b with
      | false => rw [if_pos bI_f, if_pos rfl]; rfl
      | true =>
        rw [if_neg bI_t, if_neg (show ¬ (true = false) by decide), if_neg (show ¬ nI 3 ≤ (2 : Int32) by decide +kernel), if_neg (show ¬ (3 : Nat) = 2 by decide)]
        cases h3 : isC c with
        | false => rw [if_pos bI_f, if_pos rfl]; rfl
        | true =>
          rw [if_neg bI_t, if_neg (show ¬ (true = false) by decide), if_neg (show ¬ nI 3 = (0 : Int32) by decide +kernel), if_neg (show ¬ nI 3 = (1 : Int32) by decide +kernel), if_neg (show ¬ nI 3 = (2 : Int32) by decide +kernel), i12 h1]
          refine congrArg some ?_
          show (nI (12 * a.toNatClampNeg) + b) * (12 : Int32) + c = nI ((12 * a.toNatClampNeg + b.toNatClampNeg) * 12 + c.toNatClampNeg)
          have e2 : nI (12 * a.toNatClampNeg) + b = nI (12 * a.toNatClampNeg + b.toNatClampNeg) := by rw [← nI_add, ← (isC_n h2).1]
          rw [e2, show nI (12 * a.toNatClampNeg + b.toNatClampNeg) * (12 : Int32) = nI ((12 * a.toNatClampNeg + b.toNatClampNeg) * 12) from pk_mul _ 12, ← nI_add, ← (isC_n h3).1]

/-- the reference's place: the predicate's facts from 1728 * p on -/
def nP (p : Nat) (o : Option Nat) : Int32 := match o with
  | none => -1
  | some n => nI (1728 * p + n)
theorem S_placeOut {kind width : Nat → Int32} {x a b c : Int32} (h : x < 0 ∨ (10 : Int32) ≤ x) : M_Model_place kind width x a b c = some (-1) := by
  unfold M_Model_place
  rcases h with h | h
  · rw [if_pos h]
  · by_cases h0 : x < 0
    · rw [if_pos h0]
    · rw [if_neg h0, if_pos h]
theorem S_placeUn {kind width : Nat → Int32} {p : Nat} (hp : p < 10) (hk : kind p = 0) (a b c : Int32) : M_Model_place kind width (nI p) a b c = some (-1) := by
  unfold M_Model_place
  rw [if_neg (nI_pos (by omega)), if_neg (show ¬ (10 : Int32) ≤ nI p from nI_ge hp (by decide)), gd_n _ hp (by decide), nI_clamp (show p < 2 ^ 31 by omega), if_pos hk]
set_option maxHeartbeats 2000000 in
theorem S_place {kind width : Nat → Int32} {p w : Nat} (hp : p < 10) (hs : ¬ kind p = 0) (ha : width p = nI w) (hw : w ≤ 3) (a b c : Int32) : M_Model_place kind width (nI p) a b c = some (nP p (nmb w a b c)) := by
  unfold M_Model_place
  have em : (1728 : Int32) * nI p = nI (1728 * p) := pk_mul 1728 p
  rw [if_neg (nI_pos (by omega)), if_neg (show ¬ (10 : Int32) ≤ nI p from nI_ge hp (by decide)), gd_n _ hp (by decide), nI_clamp (show p < 2 ^ 31 by omega), if_neg hs, gd_n _ hp (by decide), lt_e, ha, em]
  simp only [S_isC2, bd_s, lt_e]
  unfold nmb
  have hw4 : w = 0 ∨ w = 1 ∨ w = 2 ∨ w = 3 := by omega
  rcases hw4 with rfl | rfl | rfl | rfl
  · rw [if_pos (show nI 0 ≤ 0 by decide +kernel), if_pos (show nI 0 ≤ (1 : Int32) by decide +kernel), if_pos (show nI 0 ≤ (2 : Int32) by decide +kernel), if_pos (show nI 0 = (0 : Int32) from rfl), if_pos rfl]
    exact congrArg some (nI_add (1728 * p) 0)
  · rw [if_neg (show ¬ nI 1 ≤ 0 by decide +kernel), if_neg (show ¬ (1 : Nat) = 0 by decide)]
    cases h1 : isC a with
    | false => rw [if_pos bI_f, if_pos rfl]; rfl
    | true =>
      rw [if_neg bI_t, if_neg (show ¬ (true = false) by decide), if_pos (show nI 1 ≤ (1 : Int32) by decide +kernel), if_pos (show nI 1 ≤ (2 : Int32) by decide +kernel), if_neg (show ¬ nI 1 = (0 : Int32) by decide +kernel), if_pos (show nI 1 = (1 : Int32) from rfl), if_pos rfl]
      refine congrArg some ?_
      show nI (1728 * p) + a = nI (1728 * p + a.toNatClampNeg)
      rw [← nI_add, ← (isC_n h1).1]
  · rw [if_neg (show ¬ nI 2 ≤ 0 by decide +kernel), if_neg (show ¬ (2 : Nat) = 0 by decide)]
    cases h1 : isC a with
    | false => rw [if_pos bI_f, if_pos rfl]; rfl
    | true =>
      rw [if_neg bI_t, if_neg (show ¬ (true = false) by decide), if_neg (show ¬ nI 2 ≤ (1 : Int32) by decide +kernel), if_neg (show ¬ (2 : Nat) = 1 by decide)]
      cases h2 : isC b with
      | false => rw [if_pos bI_f, if_pos rfl]; rfl
      | true =>
        rw [if_neg bI_t, if_neg (show ¬ (true = false) by decide), if_pos (show nI 2 ≤ (2 : Int32) by decide +kernel), if_neg (show ¬ nI 2 = (0 : Int32) by decide +kernel), if_neg (show ¬ nI 2 = (1 : Int32) by decide +kernel), if_pos (show nI 2 = (2 : Int32) from rfl), if_pos rfl, i12 h1]
        refine congrArg some ?_
        show nI (1728 * p) + (nI (12 * a.toNatClampNeg) + b) = nI (1728 * p + (12 * a.toNatClampNeg + b.toNatClampNeg))
        have e2 : nI (12 * a.toNatClampNeg) + b = nI (12 * a.toNatClampNeg + b.toNatClampNeg) := by rw [← nI_add, ← (isC_n h2).1]
        rw [e2, nI_add]
  · rw [if_neg (show ¬ nI 3 ≤ 0 by decide +kernel), if_neg (show ¬ (3 : Nat) = 0 by decide)]
    cases h1 : isC a with
    | false => rw [if_pos bI_f, if_pos rfl]; rfl
    | true =>
      rw [if_neg bI_t, if_neg (show ¬ (true = false) by decide), if_neg (show ¬ nI 3 ≤ (1 : Int32) by decide +kernel), if_neg (show ¬ (3 : Nat) = 1 by decide)]
      cases h2 : isC b with
      | false => rw [if_pos bI_f, if_pos rfl]; rfl
      | true =>
        rw [if_neg bI_t, if_neg (show ¬ (true = false) by decide), if_neg (show ¬ nI 3 ≤ (2 : Int32) by decide +kernel), if_neg (show ¬ (3 : Nat) = 2 by decide)]
        cases h3 : isC c with
        | false => rw [if_pos bI_f, if_pos rfl]; rfl
        | true =>
          rw [if_neg bI_t, if_neg (show ¬ (true = false) by decide), if_neg (show ¬ nI 3 = (0 : Int32) by decide +kernel), if_neg (show ¬ nI 3 = (1 : Int32) by decide +kernel), if_neg (show ¬ nI 3 = (2 : Int32) by decide +kernel), i12 h1]
          refine congrArg some ?_
          show nI (1728 * p) + ((nI (12 * a.toNatClampNeg) + b) * (12 : Int32) + c) = nI (1728 * p + ((12 * a.toNatClampNeg + b.toNatClampNeg) * 12 + c.toNatClampNeg))
          have e2 : nI (12 * a.toNatClampNeg) + b = nI (12 * a.toNatClampNeg + b.toNatClampNeg) := by rw [← nI_add, ← (isC_n h2).1]
          have e3 : nI ((12 * a.toNatClampNeg + b.toNatClampNeg) * 12) + c = nI ((12 * a.toNatClampNeg + b.toNatClampNeg) * 12 + c.toNatClampNeg) := by rw [← nI_add, ← (isC_n h3).1]
          rw [e2, show nI (12 * a.toNatClampNeg + b.toNatClampNeg) * (12 : Int32) = nI ((12 * a.toNatClampNeg + b.toNatClampNeg) * 12) from pk_mul _ 12, e3, nI_add]
