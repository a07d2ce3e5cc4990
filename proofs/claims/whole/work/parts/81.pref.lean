/-! the reference's own loops over its rows of truths -/
def hb (holds : Nat → Int32) (i : Nat) : Bool := !decide (holds i = 0)
def hp_ (holds : Nat → Int32) (p n : Nat) : Bool := hb holds (1728 * p + n)
theorem m1728 (p j : Nat) : (1728 : Int32) * nI p + nI j = nI (1728 * p + j) := by
  have : (1728 : Int32) * nI p = nI (1728 * p) := pk_mul 1728 p
  rw [this, nI_add]
theorem nI_p0 (n : Nat) : nI n + (0 : Int32) = nI n := nI_add n 0
theorem S_factCount_L {F : Nat} {holds : Nat → Int32} {p : Nat} (hp : p < 10) : ∀ (d j n : Nat), j + d = 1728 → d < n → M_Model_factCount_L4 F holds (nI p) n (nI j) (nI (ct (hp_ holds p) j)) = some (nI (ct (hp_ holds p) 1728))
  | 0, j, n, hj, hn => by
    obtain ⟨n, rfl⟩ : ∃ m, n = m + 1 := ⟨n - 1, by omega⟩
    have : j = 1728 := by omega
    subst this
    unfold M_Model_factCount_L4
    rw [if_pos (by decide +kernel)]
  | d + 1, j, n, hj, hn => by
    obtain ⟨n, rfl⟩ : ∃ m, n = m + 1 := ⟨n - 1, by omega⟩
    unfold M_Model_factCount_L4
    have hs := ct_s (hp_ holds p) j
    rw [if_neg (show ¬ (1728 : Int32) ≤ nI j from nI_ge (a := j) (b := 1728) (by omega) (by decide)), m1728, gd_n _ (show 1728 * p + j < 17280 by omega) (by decide), lt_e, nI_clamp (show 1728 * p + j < 2 ^ 31 by omega)]
    by_cases h : holds (1728 * p + j) = 0
    · have hf : hp_ holds p j = false := by unfold hp_ hb; simp [h]
      rw [hf] at hs
      rw [if_pos h, lt_e, lt_e, nI_1, nI_p0, ← (show ct (hp_ holds p) (j + 1) = ct (hp_ holds p) j from hs)]
      exact S_factCount_L hp d (j + 1) n (by omega) (by omega)
    · have hf : hp_ holds p j = true := by unfold hp_ hb; simp [h]
      rw [hf] at hs
      rw [if_neg h, lt_e, lt_e, nI_1, nI_1, ← (show ct (hp_ holds p) (j + 1) = ct (hp_ holds p) j + 1 from hs)]
      exact S_factCount_L hp d (j + 1) n (by omega) (by omega)
theorem S_factCount {F : Nat} {holds : Nat → Int32} {p : Nat} (hp : p < 10) (hF : 1728 < F) : M_Model_factCount F holds (nI p) = some (nI (ct (hp_ holds p) 1728)) := by
  unfold M_Model_factCount
  exact bd_e (fun z6 => some z6) (S_factCount_L (F := F) hp 1728 0 F rfl hF)
theorem S_fact_L {F : Nat} {holds : Nat → Int32} {p k : Nat} {th : Int32} (hp : p < 10) (hk2 : k < 2 ^ 31) : ∀ (d j n : Nat), j + d = 1728 → d < n → ct (hp_ holds p) j ≤ k →
    (k < ct (hp_ holds p) 1728 → ∃ f, f < 1728 ∧ isNth (hp_ holds p) k f ∧ M_Model_fact_L26 F th holds (nI p) (nI k) n (nI j) (nI (ct (hp_ holds p) j)) = some (.inr (nI f, th))) ∧
    (ct (hp_ holds p) 1728 ≤ k → M_Model_fact_L26 F th holds (nI p) (nI k) n (nI j) (nI (ct (hp_ holds p) j)) = some (.inl ()))
  | 0, j, n, hj, hn, hc => by
    obtain ⟨n, rfl⟩ : ∃ m, n = m + 1 := ⟨n - 1, by omega⟩
    have : j = 1728 := by omega
    subst this
    refine ⟨fun h => absurd h (by omega), fun _ => ?_⟩
    unfold M_Model_fact_L26
    rw [if_pos (by decide +kernel)]
  | d + 1, j, n, hj, hn, hc => by
    obtain ⟨n, rfl⟩ : ∃ m, n = m + 1 := ⟨n - 1, by omega⟩
    unfold M_Model_fact_L26
    have hs := ct_s (hp_ holds p) j
    have hl := ct_le (hp_ holds p) 1728
    have hl2 := ct_mono (hp_ holds p) (show j ≤ 1728 by omega)
    rw [if_neg (show ¬ (1728 : Int32) ≤ nI j from nI_ge (a := j) (b := 1728) (by omega) (by decide)), m1728, gd_n _ (show 1728 * p + j < 17280 by omega) (by decide), lt_e, nI_clamp (show 1728 * p + j < 2 ^ 31 by omega)]
    by_cases h : holds (1728 * p + j) = 0
    · have hf : hp_ holds p j = false := by unfold hp_ hb; simp [h]
      rw [hf] at hs
      have hs : ct (hp_ holds p) (j + 1) = ct (hp_ holds p) j := hs
      rw [if_pos h, lt_e, nI_1, ← hs]
      exact S_fact_L hp hk2 d (j + 1) n (by omega) (by omega) (by omega)
    · have hf : hp_ holds p j = true := by unfold hp_ hb; simp [h]
      rw [hf] at hs
      have hs : ct (hp_ holds p) (j + 1) = ct (hp_ holds p) j + 1 := hs
      have hl3 := ct_mono (hp_ holds p) (show j + 1 ≤ 1728 by omega)
      rw [if_neg h]
      by_cases he : ct (hp_ holds p) j = k
      · refine ⟨fun _ => ⟨j, by omega, ⟨hf, he⟩, ?_⟩, fun h2 => absurd h2 (by omega)⟩
        rw [if_pos (by rw [he])]
      · rw [if_neg (fun z => he ((nI_eq (by omega) hk2).mp z)), lt_e, lt_e, nI_1, nI_1, ← hs]
        exact S_fact_L hp hk2 d (j + 1) n (by omega) (by omega) (by omega)
theorem S_factIn {F : Nat} {holds : Nat → Int32} {p k : Nat} {th : Int32} (hp : p < 10) (hF : 1728 < F) (hk : k < ct (hp_ holds p) 1728) : ∃ f, f < 1728 ∧ isNth (hp_ holds p) k f ∧ M_Model_fact F th holds (nI p) (nI k) = some (nI f, 0) := by
  have hl := ct_le (hp_ holds p) 1728
  obtain ⟨f, h1, h2, h3⟩ := (S_fact_L (F := F) (th := 0) hp (show k < 2 ^ 31 by omega) 1728 0 F rfl hF (Nat.zero_le _)).1 hk
  refine ⟨f, h1, h2, ?_⟩
  unfold M_Model_fact
  rw [if_neg (nI_pos (by omega)), if_neg (show ¬ (10 : Int32) ≤ nI p from nI_ge hp (by decide)), if_pos (nI_pos' (by omega))]
  exact bd_e (fun z5 => cs_ z5 (fun q6 => some ((-1 : Int32), (0 : Int32))) (fun o => some o)) h3
theorem S_factOut {F : Nat} {holds : Nat → Int32} {p k : Nat} {th : Int32} (hp : p < 10) (hF : 1728 < F) (hk2 : k < 2 ^ 31) (hk : ct (hp_ holds p) 1728 ≤ k) : M_Model_fact F th holds (nI p) (nI k) = some (-1, 0) := by
  have h3 := (S_fact_L (F := F) (th := 0) hp hk2 1728 0 F rfl hF (Nat.zero_le _)).2 hk
  unfold M_Model_fact
  rw [if_neg (nI_pos (by omega)), if_neg (show ¬ (10 : Int32) ≤ nI p from nI_ge hp (by decide)), if_pos (nI_pos' (by omega))]
  exact bd_e (fun z5 => cs_ z5 (fun q6 => some ((-1 : Int32), (0 : Int32))) (fun o => some o)) h3
/-- differences over all -/
def hd_ (a b : Nat → Int32) (i : Nat) : Bool := !decide (a i = b i)
theorem S_changedMany_L {F : Nat} {a b : Nat → Int32} : ∀ (d j n : Nat), j + d = 17280 → d < n → M_Model_changedMany_L4 F a b n (nI j) (nI (ct (hd_ a b) j)) = some (nI (ct (hd_ a b) 17280))
  | 0, j, n, hj, hn => by
    obtain ⟨n, rfl⟩ : ∃ m, n = m + 1 := ⟨n - 1, by omega⟩
    have : j = 17280 := by omega
    subst this
    unfold M_Model_changedMany_L4
    rw [if_pos (by decide +kernel)]
  | d + 1, j, n, hj, hn => by
    obtain ⟨n, rfl⟩ : ∃ m, n = m + 1 := ⟨n - 1, by omega⟩
    unfold M_Model_changedMany_L4
    have hs := ct_s (hd_ a b) j
    rw [if_neg (show ¬ (17280 : Int32) ≤ nI j from nI_ge (a := j) (b := 17280) (by omega) (by decide)), gd_n _ (show j < 17280 by omega) (by decide), gd_n _ (show j < 17280 by omega) (by decide), nI_clamp (show j < 2 ^ 31 by omega)]
    by_cases h : a j = b j
    · have hf : hd_ a b j = false := by unfold hd_; simp [h]
      rw [hf] at hs
      rw [if_pos h, lt_e, lt_e, nI_1, nI_p0, ← (show ct (hd_ a b) (j + 1) = ct (hd_ a b) j from hs)]
      exact S_changedMany_L d (j + 1) n (by omega) (by omega)
    · have hf : hd_ a b j = true := by unfold hd_; simp [h]
      rw [hf] at hs
      rw [if_neg h, lt_e, lt_e, nI_1, nI_1, ← (show ct (hd_ a b) (j + 1) = ct (hd_ a b) j + 1 from hs)]
      exact S_changedMany_L d (j + 1) n (by omega) (by omega)
theorem S_changedMany {F : Nat} {a b : Nat → Int32} (hF : 17280 < F) : M_Model_changedMany F a b = some (nI (ct (hd_ a b) 17280)) := by
  unfold M_Model_changedMany
  exact bd_e (fun z5 => some z5) (S_changedMany_L (F := F) 17280 0 F rfl hF)
/-- counts by blocks -/
theorem ct_blocks (f : Nat → Bool) (B : Nat) : ∀ m, ct f (B * m) = sm (fun p => ct (fun n => f (B * p + n)) B) m
  | 0 => rfl
  | m + 1 => by
    rw [show B * (m + 1) = B * m + B from rfl, ct_add, ct_blocks f B m]
    rfl
theorem sm_congr {f g : Nat → Nat} : ∀ {m : Nat}, (∀ p, p < m → f p = g p) → sm f m = sm g m
  | 0, _ => rfl
  | m + 1, h => by
    show sm f m + f m = sm g m + g m
    rw [sm_congr (fun p hp => h p (by omega)), h m (by omega)]
