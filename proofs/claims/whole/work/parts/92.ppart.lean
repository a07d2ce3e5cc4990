/-! parts of rules under given constants, on both sides -/
/-- the number that constants make -/
def nmv (v : Nat → Nat) : Nat → Nat
  | 0 => 0
  | t + 1 => nmv v t * 12 + v t
theorem nmv_lt {v : Nat → Nat} : ∀ {w : Nat}, (∀ t, t < w → v t < 12) → nmv v w < 12 ^ w
  | 0, _ => Nat.zero_lt_one
  | w + 1, h => by
    have h1 := nmv_lt (v := v) (w := w) (fun t ht => h t (by omega))
    have h2 := h w (by omega)
    show nmv v w * 12 + v w < 12 ^ (w + 1)
    rw [Nat.pow_succ]; omega
theorem nmv_lt3 {v : Nat → Nat} {w : Nat} (hw : w ≤ 3) (h : ∀ t, t < w → v t < 12) : nmv v w < 1728 := by
  have h1 := nmv_lt h
  have : 12 ^ w ≤ 12 ^ 3 := Nat.pow_le_pow_right (by decide) hw
  have : (12 : Nat) ^ 3 = 1728 := by decide
  omega
theorem x3 (e t : Nat) : nI e * (3 : Int32) + nI t = nI (3 * e + t) := by
  have : nI e * (3 : Int32) = nI (e * 3) := pk_mul e 3
  rw [this, nI_add, Nat.mul_comm]
theorem x3b (e t : Nat) : (3 : Int32) * nI e + nI t = nI (3 * e + t) := by
  have : (3 : Int32) * nI e = nI (3 * e) := pk_mul 3 e
  rw [this, nI_add]
/-- the terms of entry e have the values v, by the class' rows -/
def VC (value term : Nat → Int32) (e w : Nat) (v : Nat → Nat) : Prop := ∀ t, t < w → ∃ s, s < 38 ∧ term (3 * e + t) = nI s ∧ value s = nI (v t) ∧ v t < 12
theorem S_numberOf_L {F : Nat} {value width term : Nat → Int32} {e w : Nat} {v : Nat → Nat} (he : e < 240) (hw : w ≤ 3) (ew : width e = nI w) (hv : VC value term e w v) : ∀ (d j n : Nat), j + d = w → d < n → M_Search_numberOf_L4 F value width term (nI e) n (nI j) (nI (nmv v j)) = some (nI (nmv v w))
  | 0, j, n, hj, hn => by
    obtain ⟨n, rfl⟩ : ∃ m, n = m + 1 := ⟨n - 1, by omega⟩
    have : j = w := by omega
    subst this
    unfold M_Search_numberOf_L4
    rw [gd_n _ he (by decide), nI_clamp (show e < 2 ^ 31 by omega), ew, if_pos (nI_le (Nat.le_refl j) (by omega))]
  | d + 1, j, n, hj, hn => by
    obtain ⟨n, rfl⟩ : ∃ m, n = m + 1 := ⟨n - 1, by omega⟩
    obtain ⟨s, hs, e1, e2, e3⟩ := hv j (by omega)
    unfold M_Search_numberOf_L4
    have e12 : nI (nmv v j) * (12 : Int32) = nI (nmv v j * 12) := pk_mul _ 12
    rw [gd_n _ he (by decide), nI_clamp (show e < 2 ^ 31 by omega), ew, if_neg (nI_ge (a := j) (b := w) (by omega) (by omega)), x3, gd_n _ (show 3 * e + j < 720 by omega) (by decide), lt_e, nI_clamp (show 3 * e + j < 2 ^ 31 by omega), e1, gd_n _ hs (by decide), lt_e, lt_e, nI_1, nI_clamp (show s < 2 ^ 31 by omega), e2, e12, nI_add]
    exact S_numberOf_L he hw ew hv d (j + 1) n (by omega) (by omega)
theorem S_numberOf {F : Nat} {value width term : Nat → Int32} {e w : Nat} {v : Nat → Nat} (he : e < 240) (hw : w ≤ 3) (ew : width e = nI w) (hv : VC value term e w v) (hF : 3 < F) : M_Search_numberOf F value width term (nI e) = some (nI (nmv v w)) := by
  unfold M_Search_numberOf
  exact bd_e (fun z4 => some z4) (S_numberOf_L (F := F) he hw ew hv w 0 F (by omega) (by omega))
/-- the terms of part i have the values v, by the reference's rows -/
def VM (termOf value : Nat → Int32) (i w : Nat) (v : Nat → Nat) : Prop := ∀ t, t < w → v t < 12 ∧ (termOf (3 * i + t) = nI (v t) ∨ ∃ x, x < 6 ∧ termOf (3 * i + t) = nI (100 + x) ∧ value x = nI (v t))
theorem S_termValue {termOf value : Nat → Int32} {i w t : Nat} {v : Nat → Nat} (hi : i < 96) (hw : w ≤ 3) (ht : t < w) (hv : VM termOf value i w v) : M_Model_termValue termOf value (nI i) (nI t) = some (nI (v t)) := by
  obtain ⟨h1, h2⟩ := hv t ht
  unfold M_Model_termValue
  rw [x3b, gd_n _ (show 3 * i + t < 288 by omega) (by decide), lt_e, nI_clamp (show 3 * i + t < 2 ^ 31 by omega)]
  rcases h2 with h2 | ⟨x, hx, h2, h3⟩
  · rw [h2, if_neg (show ¬ (100 : Int32) ≤ nI (v t) from nI_ge (a := v t) (b := 100) (by omega) (by decide))]
  · have e : nI (100 + x) - (100 : Int32) = nI x := by
      have := pk_sub (a := 100 + x) (b := 100) (by omega)
      rw [show 100 + x - 100 = x by omega] at this
      exact this
    rw [h2, if_pos (show (100 : Int32) ≤ nI (100 + x) from nI_le (a := 100) (by omega) (by omega)), e, gd_n _ hx (by decide), lt_e, nI_clamp (show x < 2 ^ 31 by omega), h3]
theorem S_factOf_L {F : Nat} {partTerms termOf value : Nat → Int32} {i w : Nat} {v : Nat → Nat} (hi : i < 96) (hw : w ≤ 3) (ew : partTerms i = nI w) (hv : VM termOf value i w v) : ∀ (d j n : Nat), j + d = w → d < n → M_Model_factOf_L4 F partTerms termOf value (nI i) n (nI j) (nI (nmv v j)) = some (nI (nmv v w))
  | 0, j, n, hj, hn => by
    obtain ⟨n, rfl⟩ : ∃ m, n = m + 1 := ⟨n - 1, by omega⟩
    have : j = w := by omega
    subst this
    unfold M_Model_factOf_L4
    rw [gd_n _ hi (by decide), nI_clamp (show i < 2 ^ 31 by omega), ew, if_pos (nI_le (Nat.le_refl j) (by omega))]
  | d + 1, j, n, hj, hn => by
    obtain ⟨n, rfl⟩ : ∃ m, n = m + 1 := ⟨n - 1, by omega⟩
    unfold M_Model_factOf_L4
    have e12 : (12 : Int32) * nI (nmv v j) = nI (12 * nmv v j) := pk_mul 12 _
    rw [gd_n _ hi (by decide), nI_clamp (show i < 2 ^ 31 by omega), ew, if_neg (nI_ge (a := j) (b := w) (by omega) (by omega)), bd_e _ (S_termValue hi hw (show j < w by omega) hv), lt_e, lt_e, nI_1, e12, nI_add, Nat.mul_comm 12]
    exact S_factOf_L hi hw ew hv d (j + 1) n (by omega) (by omega)
theorem S_factOf {F : Nat} {pp partTerms termOf value : Nat → Int32} {i w p : Nat} {v : Nat → Nat} (hi : i < 96) (hw : w ≤ 3) (ep : pp i = nI p) (ew : partTerms i = nI w) (hv : VM termOf value i w v) (hF : 3 < F) : M_Model_factOf F pp partTerms termOf value (nI i) = some (nI (1728 * p + nmv v w)) := by
  unfold M_Model_factOf
  have e := S_factOf_L (F := F) hi hw ew hv w 0 F (by omega) (by omega)
  have e : M_Model_factOf_L4 F partTerms termOf value (nI i) F (0 : Int32) (0 : Int32) = some (nI (nmv v w)) := e
  rw [bd_e _ e, gd_n _ hi (by decide), lt_e, nI_clamp (show i < 2 ^ 31 by omega), ep, m1728]
/-- what a comparison of sort k says (0 alike, 1 not alike, 2 less) -/
def cmpv (k a b : Nat) : Bool := if k = 0 then decide (a = b) else if k = 1 then !decide (a = b) else decide (a < b)
theorem S_compare {value kind term : Nat → Int32} {e k : Nat} {v : Nat → Nat} (he : e < 240) (hk : k < 3) (ek : kind e = nI (3 + k)) (hv : VC value term e 2 v) : M_Search_compare value kind term (nI e) = some (bI (cmpv k (v 0) (v 1))) := by
  obtain ⟨s0, hs0, a1, a2, a3⟩ := hv 0 (by decide)
  obtain ⟨s1, hs1, b1, b2, b3⟩ := hv 1 (by decide)
  have e0 : nI e * (3 : Int32) = nI (3 * e + 0) := by
    have : nI e * (3 : Int32) = nI (e * 3) := pk_mul e 3
    rw [this]; congr 1; omega
  unfold M_Search_compare
  rw [e0, gd_n _ (show 3 * e + 0 < 720 by omega) (by decide), lt_e, nI_clamp (show 3 * e + 0 < 2 ^ 31 by omega), a1, gd_n _ hs0 (by decide), lt_e, nI_clamp (show s0 < 2 ^ 31 by omega), a2, nI_1, show 3 * e + 0 + 1 = 3 * e + 1 by omega, gd_n _ (show 3 * e + 1 < 720 by omega) (by decide), lt_e, nI_clamp (show 3 * e + 1 < 2 ^ 31 by omega), b1, gd_n _ hs1 (by decide), lt_e, nI_clamp (show s1 < 2 ^ 31 by omega), b2, gd_n _ he (by decide), nI_clamp (show e < 2 ^ 31 by omega), ek]
  have hq := nI_eq (a := v 0) (b := v 1) (by omega) (by omega)
  have hl := nI_leI (a := v 1) (b := v 0) (by omega) (by omega)
  unfold cmpv
  have : k = 0 ∨ k = 1 ∨ k = 2 := by omega
  rcases this with rfl | rfl | rfl
  · rw [if_pos (show nI (3 + 0) = (3 : Int32) from rfl), if_pos rfl]
    by_cases c : v 0 = v 1
    · rw [if_pos (hq.mpr c)]; simp [c, bI]
    · rw [if_neg (fun z => c (hq.mp z))]; simp [c, bI]
  · rw [if_neg (show ¬ nI (3 + 1) = (3 : Int32) by decide +kernel), if_pos (show nI (3 + 1) = (4 : Int32) from rfl), if_neg (show ¬ (1 : Nat) = 0 by decide), if_pos (show (1 : Nat) = 1 from rfl)]
    by_cases c : v 0 = v 1
    · rw [if_pos (hq.mpr c)]; simp [c, bI]
    · rw [if_neg (fun z => c (hq.mp z))]; simp [c, bI]
  · rw [if_neg (show ¬ nI (3 + 2) = (3 : Int32) by decide +kernel), if_neg (show ¬ nI (3 + 2) = (4 : Int32) by decide +kernel), if_neg (show ¬ (2 : Nat) = 0 by decide), if_neg (show ¬ (2 : Nat) = 1 by decide)]
    by_cases c : v 1 ≤ v 0
    · rw [if_pos (hl.mpr c)]; simp [bI]; omega
    · rw [if_neg (fun z => c (hl.mp z))]; simp [bI]; omega
