/-! the class' rounds: members of a stratum, the fresh facts taken -/
theorem S_mem_L {F : Nat} {stratum : Nat → Int32} {s : Int32} : ∀ (d j n : Nat) (y : Int32), j + d = 10 → d < n → (∀ b, b < 32 → bt y b = (decide (b < j) && decide (stratum b = s))) → ∃ y', M_Deducer_membersOf_L4 F stratum s n (nI j) y = some y' ∧ ∀ b, b < 32 → bt y' b = (decide (b < 10) && decide (stratum b = s))
  | 0, j, n, y, hj, hn, hy => by
    obtain ⟨n, rfl⟩ : ∃ m, n = m + 1 := ⟨n - 1, by omega⟩
    have : j = 10 := by omega
    subst this
    unfold M_Deducer_membersOf_L4
    rw [if_pos (by decide +kernel)]
    exact ⟨y, rfl, hy⟩
  | d + 1, j, n, y, hj, hn, hy => by
    obtain ⟨n, rfl⟩ : ∃ m, n = m + 1 := ⟨n - 1, by omega⟩
    have hj2 : j < 10 := by omega
    unfold M_Deducer_membersOf_L4
    rw [if_neg (show ¬ (10 : Int32) ≤ nI j from nI_ge (a := j) (b := 10) hj2 (by decide)), gd_n _ hj2 (by decide), nI_clamp (show j < 2 ^ 31 by omega)]
    by_cases c : stratum j = s
    · rw [if_pos c, lt_e, lt_e, nI_1]
      refine S_mem_L d (j + 1) n _ (by omega) (by omega) (fun b hb => ?_)
      rw [b_or, bt_one j (by omega) b hb, hy b hb]
      by_cases e : b = j
      · subst e; simp [c]
      · have : (b < j + 1) ↔ (b < j) := by omega
        simp [this, e]
    · rw [if_neg c, lt_e, nI_1]
      refine S_mem_L d (j + 1) n y (by omega) (by omega) (fun b hb => ?_)
      rw [hy b hb]
      by_cases e : b = j
      · subst e; simp [c]
      · have : (b < j + 1) ↔ (b < j) := by omega
        simp [this]
theorem S_membersOf {F : Nat} {stratum : Nat → Int32} (s : Int32) (hF : 10 < F) : ∃ y, M_Deducer_membersOf F stratum s = some y ∧ ∀ b, b < 32 → bt y b = (decide (b < 10) && decide (stratum b = s)) := by
  obtain ⟨y, e1, h⟩ := S_mem_L (F := F) (stratum := stratum) (s := s) 10 0 F 0 rfl hF (fun b _ => by rw [b_0]; simp)
  refine ⟨y, ?_, h⟩
  unfold M_Deducer_membersOf
  exact bd_e (fun z4 => some z4) e1
theorem S_isHead {who start : Nat → Int32} {m : Int32} {r h p : Nat} (hr : r < 241) (hh : h < 240) (hp : p < 10) (es : start r = nI h) (ew : who h = nI p) : M_Deducer_isHeadAmong who start m (nI r) = some (bI (bt m p)) := by
  unfold M_Deducer_isHeadAmong
  rw [gd_n _ hr (by decide), nI_clamp (show r < 2 ^ 31 by omega), es, gd_n _ hh (by decide), lt_e, nI_clamp (show h < 2 ^ 31 by omega), ew]
  by_cases c : bt m p = false
  · rw [if_pos ((bt_ask m (by omega)).mpr c), c]; rfl
  · rw [if_neg (fun z => c ((bt_ask m (by omega)).mp z))]
    rw [Bool.not_eq_false] at c
    rw [c]; rfl
/-- what is stale is emptied -/
theorem S_ref11 {F : Nat} {m : Int32} (hF : 144 < F) : ∀ (d j n : Nat) (row count : Nat → Int32), j + d = 10 → d < n → FSok row count → ∃ row' count', M_Deducer_refresh_L11 F m n (nI j) row count = some (row', count') ∧ FSok row' count' ∧ ∀ q k, q < 10 → k < 1728 → fh row' q k = (fh row q k && !(decide (j ≤ q) && bt m q))
  | 0, j, n, row, count, hj, hn, h => by
    obtain ⟨n, rfl⟩ : ∃ m, n = m + 1 := ⟨n - 1, by omega⟩
    have : j = 10 := by omega
    subst this
    unfold M_Deducer_refresh_L11
    rw [if_pos (by decide +kernel)]
    exact ⟨row, count, rfl, h, fun q k hq hk => by
      have : ¬ 10 ≤ q := by omega
      simp [this]⟩
  | d + 1, j, n, row, count, hj, hn, h => by
    obtain ⟨n, rfl⟩ : ∃ m, n = m + 1 := ⟨n - 1, by omega⟩
    unfold M_Deducer_refresh_L11
    rw [if_neg (show ¬ (10 : Int32) ≤ nI j from nI_ge (a := j) (b := 10) (by omega) (by decide))]
    by_cases c : bt m j = false
    · rw [if_pos ((bt_ask m (by omega)).mpr c), lt_e, nI_1]
      obtain ⟨row2, count2, e2, h2, f2⟩ := S_ref11 (F := F) (m := m) hF d (j + 1) n row count (by omega) (by omega) h
      refine ⟨row2, count2, e2, h2, fun q k hq hk => ?_⟩
      rw [f2 q k hq hk]
      by_cases e : q = j
      · subst e; simp [c]
      · have : (j + 1 ≤ q) ↔ (j ≤ q) := by omega
        simp [this]
    · rw [if_neg (fun z => c ((bt_ask m (by omega)).mp z))]
      rw [Bool.not_eq_false] at c
      obtain ⟨row1, e1, h1, f1⟩ := S_empty (F := F) (show j < 10 by omega) h hF
      rw [bd_e _ e1, lt_e, nI_1]
      obtain ⟨row2, count2, e2, h2, f2⟩ := S_ref11 (F := F) (m := m) hF d (j + 1) n row1 (upd count j 0) (by omega) (by omega) h1
      refine ⟨row2, count2, e2, h2, fun q k hq hk => ?_⟩
      rw [f2 q k hq hk, f1 q k hk]
      by_cases e : q = j
      · subst e; simp [c]
      · have : (j + 1 ≤ q) ↔ (j ≤ q) := by omega
        simp [this, e]
