/-- letter L is among the first w terms -/
def lett (tm : Nat → Nat) : Nat → Nat → Bool
  | 0, _ => false
  | t + 1, L => lett tm t L || decide (tm t = 12 + L)
theorem S_vars_L {F : Nat} {width term : Nat → Int32} {e w : Nat} {tm : Nat → Nat} (he : e < 240) (hw : w ≤ 3) (ew : width e = nI w) (ht : ∀ t, t < w → term (3 * e + t) = nI (tm t) ∧ tm t < 38) : ∀ (d j n : Nat) (m : Int32), j + d = w → d < n → (∀ b, b < 32 → bt m b = lett tm j b) → ∃ m', M_Program_variables_L4 F width term (nI e) n (nI j) m = some m' ∧ ∀ b, b < 32 → bt m' b = lett tm w b
  | 0, j, n, m, hj, hn, hm => by
    obtain ⟨n, rfl⟩ : ∃ m, n = m + 1 := ⟨n - 1, by omega⟩
    have : j = w := by omega
    subst this
    unfold M_Program_variables_L4
    rw [gd_n _ he (by decide), nI_clamp (show e < 2 ^ 31 by omega), ew, if_pos (nI_le (Nat.le_refl j) (by omega))]
    exact ⟨m, rfl, hm⟩
  | d + 1, j, n, m, hj, hn, hm => by
    obtain ⟨n, rfl⟩ : ∃ m, n = m + 1 := ⟨n - 1, by omega⟩
    obtain ⟨e1, e2⟩ := ht j (by omega)
    have hs : ∀ b, lett tm (j + 1) b = (lett tm j b || decide (tm j = 12 + b)) := fun b => rfl
    unfold M_Program_variables_L4
    rw [gd_n _ he (by decide), nI_clamp (show e < 2 ^ 31 by omega), ew, if_neg (nI_ge (a := j) (b := w) (by omega) (by omega)), x3, gd_n _ (show 3 * e + j < 720 by omega) (by decide), lt_e, nI_clamp (show 3 * e + j < 2 ^ 31 by omega), e1]
    by_cases c : tm j < 12
    · rw [if_pos (show nI (tm j) < (12 : Int32) from nI_lt (b := 12) c (by decide)), lt_e, nI_1]
      refine S_vars_L he hw ew ht d (j + 1) n m (by omega) (by omega) (fun b hb => ?_)
      rw [hm b hb, hs b]
      have : ¬ tm j = 12 + b := by omega
      simp [this]
    · have ed : nI (tm j) - (12 : Int32) = nI (tm j - 12) := pk_sub (b := 12) (by omega)
      rw [if_neg (show ¬ nI (tm j) < (12 : Int32) from nI_nlt (b := 12) (by omega) (by omega)), ed, lt_e, lt_e, lt_e, nI_1]
      refine S_vars_L he hw ew ht d (j + 1) n _ (by omega) (by omega) (fun b hb => ?_)
      rw [b_or, bt_one _ (by omega) b hb, hm b hb, hs b]
      congr 1
      exact decide_eq_decide.mpr (by omega)
/-- the letters of an entry, as bits -/
theorem S_vars {F : Nat} {width term : Nat → Int32} {e w : Nat} {tm : Nat → Nat} (he : e < 240) (hw : w ≤ 3) (ew : width e = nI w) (ht : ∀ t, t < w → term (3 * e + t) = nI (tm t) ∧ tm t < 38) (hF : 3 < F) : ∃ m, M_Program_variables F width term (nI e) = some m ∧ ∀ b, b < 32 → bt m b = lett tm w b := by
  obtain ⟨m, e1, h⟩ := S_vars_L (F := F) he hw ew ht w 0 F 0 (by omega) (by omega) (fun b _ => b_0 b)
  refine ⟨m, ?_, h⟩
  unfold M_Program_variables
  exact bd_e (fun z6 => some z6) e1
theorem S_isAtom {kind : Nat → Int32} {e k : Nat} (he : e < 240) (hk : k ≤ 5) (ek : kind e = nI k) : M_Program_isAtom kind (nI e) = some (bI (decide (k ≤ 2))) := by
  unfold M_Program_isAtom
  rw [gd_n _ he (by decide), nI_clamp (show e < 2 ^ 31 by omega), ek]
  by_cases c : k ≤ 2
  · rw [if_neg (show ¬ (2 : Int32) < nI k from nI_nlt (a := 2) (b := k) c (by decide))]; simp [c, bI]
  · rw [if_pos (show (2 : Int32) < nI k from nI_lt (a := 2) (by omega) (by omega))]; simp [c, bI]
/-- the DERIVED predicates that depend on a touched one -/
theorem S_dep_L {F : Nat} {sort reach : Nat → Int32} {m : Int32} : ∀ (d j n : Nat) (y : Int32), j + d = 10 → d < n → (∀ b, b < 32 → bt y b = (decide (b < j) && decide (sort b = 2) && !decide ((reach b &&& m) = 0))) → ∃ y', M_Program_dependents_L4 F sort reach m n (nI j) y = some y' ∧ ∀ b, b < 32 → bt y' b = (decide (b < 10) && decide (sort b = 2) && !decide ((reach b &&& m) = 0))
  | 0, j, n, y, hj, hn, hy => by
    obtain ⟨n, rfl⟩ : ∃ m, n = m + 1 := ⟨n - 1, by omega⟩
    have : j = 10 := by omega
    subst this
    unfold M_Program_dependents_L4
    rw [if_pos (by decide +kernel)]
    exact ⟨y, rfl, hy⟩
  | d + 1, j, n, y, hj, hn, hy => by
    obtain ⟨n, rfl⟩ : ∃ m, n = m + 1 := ⟨n - 1, by omega⟩
    have hj2 : j < 10 := by omega
    unfold M_Program_dependents_L4
    rw [if_neg (show ¬ (10 : Int32) ≤ nI j from nI_ge (a := j) (b := 10) hj2 (by decide)), gd_n _ hj2 (by decide), nI_clamp (show j < 2 ^ 31 by omega)]
    have stay : (sort j = 2 → (reach j &&& m) = 0) → ∀ b, b < 32 → bt y b = (decide (b < j + 1) && decide (sort b = 2) && !decide ((reach b &&& m) = 0)) := fun hz b hb => by
      rw [hy b hb]
      by_cases e : b = j
      · subst e
        by_cases c : sort b = 2
        · simp [hz c]
        · simp [c]
      · have : (b < j + 1) ↔ (b < j) := by omega
        simp [this]
    by_cases c : sort j = 2
    · rw [if_pos c, gd_n _ hj2 (by decide)]
      by_cases c2 : (reach j &&& m) = 0
      · rw [if_pos c2, lt_e, nI_1]
        exact S_dep_L d (j + 1) n y (by omega) (by omega) (stay (fun _ => c2))
      · rw [if_neg c2, lt_e, lt_e, nI_1]
        refine S_dep_L d (j + 1) n _ (by omega) (by omega) (fun b hb => ?_)
        rw [b_or, bt_one j (by omega) b hb, hy b hb]
        by_cases e : b = j
        · subst e; simp [c, c2]
        · have : (b < j + 1) ↔ (b < j) := by omega
          simp [this, e]
    · rw [if_neg c, lt_e, nI_1]
      exact S_dep_L d (j + 1) n y (by omega) (by omega) (stay (fun z => absurd z c))
theorem S_dep {F : Nat} {sort reach : Nat → Int32} (m : Int32) (hF : 10 < F) : ∃ y, M_Program_dependents F sort reach m = some y ∧ ∀ b, b < 32 → bt y b = (decide (b < 10) && decide (sort b = 2) && !decide ((reach b &&& m) = 0)) := by
  obtain ⟨y, e1, h⟩ := S_dep_L (F := F) (sort := sort) (reach := reach) (m := m) 10 0 F 0 rfl hF (fun b _ => by rw [b_0]; simp)
  refine ⟨y, ?_, h⟩
  unfold M_Program_dependents
  exact bd_e (fun z5 => some z5) e1
