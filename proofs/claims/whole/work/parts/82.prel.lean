/-- the same facts in rows of bits and in a row of truths -/
def RS (row holds : Nat → Int32) : Prop := ∀ p n, p < 10 → n < 1728 → holds (1728 * p + n) = bI (fh row p n)
theorem bI_e (b : Bool) : (!decide (bI b = 0)) = b := by cases b <;> decide +kernel
theorem RS.hp {row holds : Nat → Int32} (h : RS row holds) {p n : Nat} (hp : p < 10) (hn : n < 1728) : hp_ holds p n = fh row p n := by
  unfold hp_ hb
  rw [h p n hp hn, bI_e]
theorem RS.ct {row holds : Nat → Int32} (h : RS row holds) {p : Nat} (hp : p < 10) {N : Nat} (hN : N ≤ 1728) : ct (hp_ holds p) N = ct (fh row p) N := ct_congr (fun n hn => h.hp hp (by omega))
theorem RS.hd {ra rb a b : Nat → Int32} (ha : RS ra a) (hb : RS rb b) {p n : Nat} (hp : p < 10) (hn : n < 1728) : hd_ a b (1728 * p + n) = fx ra rb p n := by
  unfold hd_ fx
  rw [ha p n hp hn, hb p n hp hn]
  cases fh ra p n <;> cases fh rb p n <;> decide +kernel
/-- any Int32: below 0, too great, or a number below n -/
theorem x_cases (x : Int32) {n : Nat} (hn : n < 2 ^ 31) : x < 0 ∨ nI n ≤ x ∨ ∃ j : Nat, j < n ∧ x = nI j := pk_ix x hn
theorem S_nthOut {F : Nat} {row count : Nat → Int32} {x0 x1 : Int32} (h : x0 < 0 ∨ (10 : Int32) ≤ x0 ∨ x1 < 0) : M_FactSet_nth F row count x0 x1 = some (-1) := by
  unfold M_FactSet_nth
  by_cases h0 : x0 < 0
  · rw [if_pos h0]
  · rw [if_neg h0]
    by_cases h1 : (10 : Int32) ≤ x0
    · rw [if_pos h1]
    · rw [if_neg h1, if_pos (by rcases h with h | h | h; exact absurd h h0; exact absurd h h1; exact h)]
theorem S_nthFew {F : Nat} {row count : Nat → Int32} (h : FSok row count) {p k : Nat} (hp : p < 10) (hk2 : k < 2 ^ 31) (hk : fc row p ≤ k) : M_FactSet_nth F row count (nI p) (nI k) = some (-1) := by
  unfold M_FactSet_nth
  rw [if_neg (nI_pos (by omega)), if_neg (show ¬ (10 : Int32) ≤ nI p from nI_ge hp (by decide)), if_neg (nI_pos hk2), gd_n _ hp (by decide), nI_clamp (show p < 2 ^ 31 by omega), h.2 p hp, if_neg (nI_nlt hk hk2)]
/-- fact(p, k): alike -/
theorem E_fact {F : Nat} {row count holds : Nat → Int32} (h : FSok row count) (hr : RS row holds) (hF : 17280 < F) (th x0 x1 : Int32) : ∃ r, M_Hall_fact F row count x0 x1 = some r ∧ M_Model_fact F th holds x0 x1 = some (r, 0) := by
  have key : ∃ r, M_FactSet_nth F row count x0 x1 = some r ∧ M_Model_fact F th holds x0 x1 = some (r, 0) := by
    by_cases h0 : x0 < 0
    · exact ⟨-1, S_nthOut (Or.inl h0), by unfold M_Model_fact; rw [if_pos h0]⟩
    · by_cases h1 : (10 : Int32) ≤ x0
      · exact ⟨-1, S_nthOut (Or.inr (Or.inl h1)), by unfold M_Model_fact; rw [if_neg h0, if_pos h1]⟩
      · by_cases h2 : x1 < 0
        · refine ⟨-1, S_nthOut (Or.inr (Or.inr h2)), ?_⟩
          unfold M_Model_fact
          rw [if_neg h0, if_neg h1, if_neg (fun z => ?_)]
          simp only [Int32.lt_iff_toInt_lt, Int32.le_iff_toInt_le] at h2 z
          omega
        · rcases x_cases x0 (n := 10) (by decide) with z | z | ⟨p, hp, rfl⟩
          · exact absurd z h0
          · exact absurd z h1
          · obtain ⟨k, hk2, rfl⟩ := nI_of h2
            have e := hr.ct hp (Nat.le_refl 1728)
            by_cases hk : k < fc row p
            · obtain ⟨f, g1, g2, g3⟩ := S_nth (F := F) h hp hk (by omega)
              obtain ⟨f', g1', g2', g3'⟩ := S_factIn (F := F) (th := th) hp (by omega) (show k < ct (hp_ holds p) 1728 by rw [e]; exact hk)
              have : f = f' := isNth_uniq (f := fh row p) g2 ⟨by rw [← hr.hp hp g1']; exact g2'.1, by rw [← hr.ct hp (by omega)]; exact g2'.2⟩
              subst this
              exact ⟨_, g3, g3'⟩
            · exact ⟨-1, S_nthFew h hp hk2 (by omega), S_factOut hp (by omega) hk2 (by rw [e]; unfold fc at hk; omega)⟩
  obtain ⟨r, k1, k2⟩ := key
  refine ⟨r, ?_, k2⟩
  unfold M_Hall_fact
  rw [bd_e _ k1]
theorem S_cc_L {F : Nat} {ra ca rb cb : Nat → Int32} (ha : FSok ra ca) (hb : FSok rb cb) (hF : 144 < F) : ∀ (d j n : Nat), j + d = 10 → d < n → M_Hall_countChanges_L4 F ra ca rb cb n (nI j) (nI (sm (fun p => ct (fx ra rb p) 1728) j)) = some (nI (sm (fun p => ct (fx ra rb p) 1728) 10))
  | 0, j, n, hj, hn => by
    obtain ⟨n, rfl⟩ : ∃ m, n = m + 1 := ⟨n - 1, by omega⟩
    have : j = 10 := by omega
    subst this
    unfold M_Hall_countChanges_L4
    rw [if_pos (by decide +kernel)]
  | d + 1, j, n, hj, hn => by
    obtain ⟨n, rfl⟩ : ∃ m, n = m + 1 := ⟨n - 1, by omega⟩
    unfold M_Hall_countChanges_L4
    rw [if_neg (show ¬ (10 : Int32) ≤ nI j from nI_ge (a := j) (b := 10) (by omega) (by decide)), bd_e _ (S_diff ha hb (show j < 10 by omega) hF), lt_e, lt_e, nI_1, nI_add]
    exact S_cc_L ha hb hF d (j + 1) n (by omega) (by omega)
theorem hd_blocks {ra rb a b : Nat → Int32} (ha : RS ra a) (hb : RS rb b) {m : Nat} (hm : m ≤ 10) : ct (hd_ a b) (1728 * m) = sm (fun p => ct (fx ra rb p) 1728) m := by
  rw [ct_blocks]
  exact sm_congr (fun p hp => ct_congr (fun n hn => ha.hd hb (by omega) hn))
/-- how many have changed: alike -/
theorem E_countChanges {F : Nat} {ra ca rb cb a b : Nat → Int32} (ha : FSok ra ca) (hb : FSok rb cb) (ra' : RS ra a) (rb' : RS rb b) (hF : 17280 < F) : ∃ r, M_Hall_countChanges F ra ca rb cb = some r ∧ M_Model_changedMany F a b = some r := by
  refine ⟨nI (ct (hd_ a b) 17280), ?_, S_changedMany hF⟩
  unfold M_Hall_countChanges
  have e := S_cc_L (F := F) ha hb (by omega) 10 0 F rfl (by omega)
  rw [show (17280 : Nat) = 1728 * 10 from rfl, hd_blocks ra' rb' (Nat.le_refl 10)]
  exact bd_e (fun z4 => some z4) e
