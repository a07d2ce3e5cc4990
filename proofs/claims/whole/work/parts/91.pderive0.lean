/-! before a deduction: what is DERIVED is emptied; behind it: how many hold -/
theorem S_c116_L {F : Nat} {holds : Nat → Int32} : ∀ (d j n : Nat), j + d = 17280 → d < n → M_Model_crash_L116 F holds n (nI j) (nI (ct (hb holds) j)) = some (nI (ct (hb holds) 17280))
  | 0, j, n, hj, hn => by
    obtain ⟨n, rfl⟩ : ∃ m, n = m + 1 := ⟨n - 1, by omega⟩
    have : j = 17280 := by omega
    subst this
    unfold M_Model_crash_L116
    rw [if_pos (by decide +kernel)]
  | d + 1, j, n, hj, hn => by
    obtain ⟨n, rfl⟩ : ∃ m, n = m + 1 := ⟨n - 1, by omega⟩
    unfold M_Model_crash_L116
    have hs := ct_s (hb holds) j
    have hj2 : j < 17280 := by omega
    rw [if_neg (show ¬ (17280 : Int32) ≤ nI j from nI_ge (a := j) (b := 17280) hj2 (by decide)), gd_n _ hj2 (by decide), nI_clamp (show j < 2 ^ 31 by omega)]
    by_cases h : holds j = 0
    · have hf : hb holds j = false := by unfold hb; simp [h]
      rw [hf] at hs
      rw [if_pos h, lt_e, lt_e, nI_1, nI_p0, ← (show ct (hb holds) (j + 1) = ct (hb holds) j from hs)]
      exact S_c116_L d (j + 1) n (by omega) (by omega)
    · have hf : hb holds j = true := by unfold hb; simp [h]
      rw [hf] at hs
      rw [if_neg h, lt_e, lt_e, nI_1, nI_1, ← (show ct (hb holds) (j + 1) = ct (hb holds) j + 1 from hs)]
      exact S_c116_L d (j + 1) n (by omega) (by omega)
theorem hb_sum {row holds : Nat → Int32} (hr : RS row holds) : ct (hb holds) 17280 = sm (fc row) 10 := by
  rw [show (17280 : Nat) = 1728 * 10 from rfl, ct_blocks]
  exact sm_congr (fun p hp => ct_congr (fun n hn => hr.hp hp hn))
theorem S_der10 {F : Nat} {kind : Nat → Int32} {p : Nat} (hp : p < 10) : ∀ (d j f : Nat) (holds : Nat → Int32), j + d = 1728 → d < f → ∃ holds', M_Model_derive_L10 F kind (nI p) f (nI j) holds = some holds' ∧ ∀ q k, q < 10 → k < 1728 → holds' (1728 * q + k) = if q = p ∧ j ≤ k ∧ kind p = 2 then 0 else holds (1728 * q + k)
  | 0, j, f, holds, hj, hf => by
    obtain ⟨f, rfl⟩ : ∃ m, f = m + 1 := ⟨f - 1, by omega⟩
    have : j = 1728 := by omega
    subst this
    unfold M_Model_derive_L10
    rw [if_pos (by decide +kernel)]
    exact ⟨holds, rfl, fun q k hq hk => by rw [if_neg (by omega)]⟩
  | d + 1, j, f, holds, hj, hf => by
    obtain ⟨f, rfl⟩ : ∃ m, f = m + 1 := ⟨f - 1, by omega⟩
    have n0 : vp_nar .boolean (0 : Int32) = 0 := by decide +kernel
    have hm : 1728 * p + j < 17280 := by omega
    unfold M_Model_derive_L10
    rw [if_neg (show ¬ (1728 : Int32) ≤ nI j from nI_ge (a := j) (b := 1728) (by omega) (by decide)), gd_n _ hp (by decide), nI_clamp (show p < 2 ^ 31 by omega)]
    by_cases hk : kind p = 2
    · rw [if_pos hk, m1728, gd_n _ hm (by decide), lt_e, lt_e, nI_1, n0, nI_clamp (show 1728 * p + j < 2 ^ 31 by omega)]
      obtain ⟨holds', e, g⟩ := S_der10 (F := F) (kind := kind) hp d (j + 1) f (upd holds (1728 * p + j) 0) (by omega) (by omega)
      refine ⟨holds', e, fun q k hq hk2 => ?_⟩
      rw [g q k hq hk2, upd_fn]
      by_cases c : q = p ∧ j + 1 ≤ k ∧ kind p = 2
      · rw [if_pos c, if_pos ⟨c.1, by omega, c.2.2⟩]
      · rw [if_neg c]
        by_cases c2 : 1728 * q + k = 1728 * p + j
        · rw [if_pos c2, if_pos ⟨by omega, by omega, hk⟩]
        · rw [if_neg c2, if_neg (fun z => c2 (by have : k = j := by rcases z with ⟨z1, z2, z3⟩; rcases Nat.lt_or_ge j k with y | y; exact absurd ⟨z1, y, z3⟩ c; omega
                                                 rw [z.1, this]))]
    · rw [if_neg hk]
      exact ⟨holds, rfl, fun q k hq hk2 => by rw [if_neg (fun z => hk z.2.2)]⟩
theorem S_der2_L {F : Nat} {kind : Nat → Int32} (hF : 1728 < F) : ∀ (d j f : Nat) (holds : Nat → Int32), j + d = 10 → d < f → ∃ holds', M_Model_derive_L2 F kind f (nI j) holds = some holds' ∧ ∀ q k, q < 10 → k < 1728 → holds' (1728 * q + k) = if j ≤ q ∧ kind q = 2 then 0 else holds (1728 * q + k)
  | 0, j, f, holds, hj, hf => by
    obtain ⟨f, rfl⟩ : ∃ m, f = m + 1 := ⟨f - 1, by omega⟩
    have : j = 10 := by omega
    subst this
    unfold M_Model_derive_L2
    rw [if_pos (by decide +kernel)]
    exact ⟨holds, rfl, fun q k hq hk => by rw [if_neg (by omega)]⟩
  | d + 1, j, f, holds, hj, hf => by
    obtain ⟨f, rfl⟩ : ∃ m, f = m + 1 := ⟨f - 1, by omega⟩
    obtain ⟨h1, e1, g1⟩ := S_der10 (F := F) (kind := kind) (show j < 10 by omega) 1728 0 F holds (by omega) hF
    have e1 : M_Model_derive_L10 F kind (nI j) F (0 : Int32) holds = some h1 := e1
    unfold M_Model_derive_L2
    rw [if_neg (show ¬ (10 : Int32) ≤ nI j from nI_ge (a := j) (b := 10) (by omega) (by decide)), bd_e _ e1, lt_e, nI_1]
    obtain ⟨h2, e2, g2⟩ := S_der2_L (F := F) (kind := kind) hF d (j + 1) f h1 (by omega) (by omega)
    refine ⟨h2, e2, fun q k hq hk => ?_⟩
    rw [g2 q k hq hk, g1 q k hq hk]
    by_cases c : j + 1 ≤ q ∧ kind q = 2
    · rw [if_pos c, if_pos ⟨by omega, c.2⟩]
    · rw [if_neg c]
      by_cases c2 : q = j
      · subst c2
        by_cases c3 : kind q = 2
        · rw [if_pos ⟨rfl, Nat.zero_le k, c3⟩, if_pos ⟨Nat.le_refl q, c3⟩]
        · rw [if_neg (fun z => c3 z.2.2), if_neg (fun z => c3 z.2)]
      · rw [if_neg (fun z => c2 z.1), if_neg (fun z => c ⟨by omega, z.2⟩)]
