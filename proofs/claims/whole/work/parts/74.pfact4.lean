/-- the k-th that is so -/
def isNth (f : Nat → Bool) (k n : Nat) : Prop := f n = true ∧ ct f n = k
theorem isNth_uniq {f : Nat → Bool} {k a b : Nat} (ha : isNth f k a) (hb : isNth f k b) : a = b := by
  rcases Nat.lt_trichotomy a b with h | h | h
  · have h1 := ct_mono f (show a + 1 ≤ b by omega)
    have h2 : ct f (a + 1) = ct f a + 1 := by show ct f a + (if f a then 1 else 0) = ct f a + 1; rw [ha.1]; rfl
    have := ha.2; have := hb.2; omega
  · exact h
  · have h1 := ct_mono f (show b + 1 ≤ a by omega)
    have h2 : ct f (b + 1) = ct f b + 1 := by show ct f b + (if f b then 1 else 0) = ct f b + 1; rw [hb.1]; rfl
    have := ha.2; have := hb.2; omega
theorem isNth_lt {f : Nat → Bool} {k n N : Nat} (h : isNth f k n) (hn : n < N) : k < ct f N := by
  have h1 := ct_mono f (show n + 1 ≤ N by omega)
  have h2 : ct f (n + 1) = ct f n + 1 := by show ct f n + (if f n then 1 else 0) = ct f n + 1; rw [h.1]; rfl
  have := h.2; omega
theorem ct_s (f : Nat → Bool) (n : Nat) : ct f (n + 1) = ct f n + (if f n then 1 else 0) := rfl
theorem S_nthBit_L {F : Nat} {x : Int32} {k : Nat} (hk : k < ct (bt x) 12) : ∀ (d j n : Nat), j + d = 12 → d < n → ct (bt x) j ≤ k → ∃ b, b < 12 ∧ isNth (bt x) k b ∧ M_FactSet_nthBit_L4 F x n (nI j) (nI (k - ct (bt x) j)) = some (.inr (nI b))
  | 0, j, n, hj, hn, hc => by
    have : j = 12 := by omega
    subst this
    omega
  | d + 1, j, n, hj, hn, hc => by
    obtain ⟨n, rfl⟩ : ∃ m, n = m + 1 := ⟨n - 1, by omega⟩
    unfold M_FactSet_nthBit_L4
    rw [if_neg (show ¬ (12 : Int32) ≤ nI j from nI_ge (a := j) (b := 12) (by omega) (by decide))]
    have hs := ct_s (bt x) j
    by_cases hb : bt x j = false
    · rw [if_pos ((bt_ask x (by omega)).mpr hb), lt_e, nI_1]
      rw [hb] at hs
      have hs : ct (bt x) (j + 1) = ct (bt x) j := hs
      rw [← hs]
      exact S_nthBit_L hk d (j + 1) n (by omega) (by omega) (by omega)
    · rw [if_neg (fun q => hb ((bt_ask x (by omega)).mp q))]
      rw [Bool.not_eq_false] at hb
      rw [hb] at hs
      have hs : ct (bt x) (j + 1) = ct (bt x) j + 1 := hs
      have hl := ct_le (bt x) 12
      by_cases he : k = ct (bt x) j
      · refine ⟨j, by omega, ⟨hb, he.symm⟩, ?_⟩
        rw [show k - ct (bt x) j = 0 by omega, if_pos (show nI 0 = 0 from rfl)]
      · rw [if_neg (show ¬ nI (k - ct (bt x) j) = 0 from nI_ne0 (by omega) (by omega)), lt_e, lt_e, nI_1, show k - ct (bt x) j = (k - ct (bt x) (j + 1)) + 1 by omega, pk_m1]
        exact S_nthBit_L hk d (j + 1) n (by omega) (by omega) (by omega)
theorem S_nthBit {F : Nat} {x : Int32} {k : Nat} (hF : 12 < F) (hk : k < ct (bt x) 12) : ∃ b, b < 12 ∧ isNth (bt x) k b ∧ M_FactSet_nthBit F x (nI k) = some (nI b) := by
  obtain ⟨b, h1, h2, h3⟩ := S_nthBit_L (F := F) hk 12 0 F rfl hF (Nat.zero_le _)
  refine ⟨b, h1, h2, ?_⟩
  unfold M_FactSet_nthBit
  exact bd_e (fun z4 => cs_ z4 (fun q5 => some (-1 : Int32)) (fun o => some o)) h3
/-- a place within a row is one within the set -/
theorem isNth_row {row : Nat → Int32} {p a k b : Nat} (hb : b < 12) (h : isNth (bt (row (144 * p + a))) k b) : isNth (fh row p) (ct (fh row p) (12 * a) + k) (12 * a + b) := by
  refine ⟨by rw [fh_at row p a b hb]; exact h.1, ?_⟩
  rw [ct_add, ct_congr (g := bt (row (144 * p + a))) (fun c hc => fh_at row p a c (by omega)), h.2]
theorem S_nth_L {F : Nat} {row count : Nat → Int32} (h : FSok row count) {p k : Nat} (hp : p < 10) (hk : k < fc row p) (hF : 144 < F) : ∀ (d j n : Nat), j + d = 144 → d < n → ct (fh row p) (12 * j) ≤ k → ∃ f, f < 1728 ∧ isNth (fh row p) k f ∧ M_FactSet_nth_L31 F row (nI p) n (nI j) (nI (k - ct (fh row p) (12 * j))) = some (.inr (nI f))
  | 0, j, n, hj, hn, hc => by
    have : j = 144 := by omega
    subst this
    unfold fc at hk
    rw [show (12 * 144 : Nat) = 1728 from rfl] at hc
    omega
  | d + 1, j, n, hj, hn, hc => by
    obtain ⟨n, rfl⟩ : ∃ m, n = m + 1 := ⟨n - 1, by omega⟩
    unfold M_FactSet_nth_L31
    have hi : 144 * p + j < 1440 := by omega
    have hs := fc_row row p j
    have hl := fc_le row p
    have hl2 := ct_le (bt (row (144 * p + j))) 12
    rw [if_neg (show ¬ (144 : Int32) ≤ nI j from nI_ge (a := j) (b := 144) (by omega) (by decide)), f_mul, Nat.mul_comm p 144, nI_add, gd_n _ hi (by decide), lt_e, nI_clamp (show 144 * p + j < 2 ^ 31 by omega), bd_e _ (S_bc (h.1 _ hi))]
    by_cases he : ct (bt (row (144 * p + j))) 12 ≤ k - ct (fh row p) (12 * j)
    · rw [if_pos (nI_le he (by omega)), bd_e _ (S_bc (h.1 _ hi)), lt_e, lt_e, nI_1, pk_sub he, show k - ct (fh row p) (12 * j) - ct (bt (row (144 * p + j))) 12 = k - ct (fh row p) (12 * (j + 1)) by omega]
      exact S_nth_L h hp hk hF d (j + 1) n (by omega) (by omega) (by omega)
    · rw [if_neg (nI_ge (by omega) (by omega))]
      obtain ⟨b, hb, hn2, e⟩ := S_nthBit (F := F) (x := row (144 * p + j)) (k := k - ct (fh row p) (12 * j)) (by omega) (by omega)
      have hr := isNth_row hb hn2
      rw [show ct (fh row p) (12 * j) + (k - ct (fh row p) (12 * j)) = k by omega] at hr
      refine ⟨12 * j + b, by omega, hr, ?_⟩
      rw [bd_e _ e, show nI j * (12 : Int32) = nI (j * 12) from pk_mul j 12, nI_add, Nat.mul_comm j 12]
theorem S_nth {F : Nat} {row count : Nat → Int32} (h : FSok row count) {p k : Nat} (hp : p < 10) (hk : k < fc row p) (hF : 144 < F) : ∃ f, f < 1728 ∧ isNth (fh row p) k f ∧ M_FactSet_nth F row count (nI p) (nI k) = some (nI f) := by
  obtain ⟨f, h1, h2, h3⟩ := S_nth_L h hp hk hF 144 0 F rfl hF (Nat.zero_le _)
  have hl := fc_le row p
  refine ⟨f, h1, h2, ?_⟩
  unfold M_FactSet_nth
  rw [if_neg (nI_pos (by omega)), if_neg (show ¬ (10 : Int32) ≤ nI p from nI_ge hp (by decide)), if_neg (nI_pos (by omega)), gd_n _ hp (by decide), nI_clamp (show p < 2 ^ 31 by omega), h.2 p hp, if_pos (nI_lt hk (by omega))]
  exact bd_e (fun z7 => cs_ z7 (fun q8 => some (-1 : Int32)) (fun o => some o)) h3
