/-- two sets' differences as rows -/
def rx (ra rb : Nat → Int32) : Nat → Int32 := fun i => ra i ^^^ rb i
theorem fx_rx (ra rb : Nat → Int32) (p : Nat) : fx ra rb p = fh (rx ra rb) p := by
  funext n
  unfold fx fh rx
  rw [b_xor]
theorem rx12 {ra rb : Nat → Int32} (ha : r12 ra) (hb : r12 rb) : r12 (rx ra rb) := fun i hi b h => by
  unfold rx
  rw [b_xor, ha i hi b h, hb i hi b h]; rfl
theorem S_nthD_L {F : Nat} {ra rb : Nat → Int32} (ha : r12 ra) (hb : r12 rb) {p k : Nat} (hp : p < 10) (hk : k < ct (fx ra rb p) 1728) (hF : 144 < F) : ∀ (d j n : Nat), j + d = 144 → d < n → ct (fx ra rb p) (12 * j) ≤ k → ∃ f, f < 1728 ∧ isNth (fx ra rb p) k f ∧ M_FactSet_nthDifference_L6 F ra rb (nI p) n (nI j) (nI (k - ct (fx ra rb p) (12 * j))) = some (.inr (nI f))
  | 0, j, n, hj, hn, hc => by
    have : j = 144 := by omega
    subst this
    rw [show (12 * 144 : Nat) = 1728 from rfl] at hc
    omega
  | d + 1, j, n, hj, hn, hc => by
    obtain ⟨n, rfl⟩ : ∃ m, n = m + 1 := ⟨n - 1, by omega⟩
    unfold M_FactSet_nthDifference_L6
    have hi : 144 * p + j < 1440 := by omega
    have hs := fc_row (rx ra rb) p j
    rw [← fx_rx] at hs
    have hl := ct_le (fx ra rb p) 1728
    have hl2 := ct_le (bt (rx ra rb (144 * p + j))) 12
    have hbc : M_Integer_bitCount_0f7a4 (ra (144 * p + j) ^^^ rb (144 * p + j)) = some (nI (ct (bt (rx ra rb (144 * p + j))) 12)) := S_bc (x := rx ra rb (144 * p + j)) (rx12 ha hb _ hi)
    rw [if_neg (show ¬ (144 : Int32) ≤ nI j from nI_ge (a := j) (b := 144) (by omega) (by decide)), f_mul, Nat.mul_comm p 144, nI_add, gd_n _ hi (by decide), lt_e, gd_n _ hi (by decide), lt_e, lt_e, nI_clamp (show 144 * p + j < 2 ^ 31 by omega), bd_e _ hbc]
    by_cases he : ct (bt (rx ra rb (144 * p + j))) 12 ≤ k - ct (fx ra rb p) (12 * j)
    · rw [if_pos (nI_le he (by omega)), bd_e _ hbc, lt_e, lt_e, nI_1, pk_sub he, show k - ct (fx ra rb p) (12 * j) - ct (bt (rx ra rb (144 * p + j))) 12 = k - ct (fx ra rb p) (12 * (j + 1)) by omega]
      exact S_nthD_L ha hb hp hk hF d (j + 1) n (by omega) (by omega) (by omega)
    · rw [if_neg (nI_ge (by omega) (by omega))]
      obtain ⟨b, hb2, hn2, e⟩ := S_nthBit (F := F) (x := rx ra rb (144 * p + j)) (k := k - ct (fx ra rb p) (12 * j)) (by omega) (by omega)
      have hr := isNth_row (row := rx ra rb) hb2 hn2
      rw [← fx_rx, show ct (fx ra rb p) (12 * j) + (k - ct (fx ra rb p) (12 * j)) = k by omega] at hr
      refine ⟨12 * j + b, by omega, hr, ?_⟩
      have e : M_FactSet_nthBit F (ra (144 * p + j) ^^^ rb (144 * p + j)) (nI (k - ct (fx ra rb p) (12 * j))) = some (nI b) := e
      rw [bd_e _ e, show nI j * (12 : Int32) = nI (j * 12) from pk_mul j 12, nI_add, Nat.mul_comm j 12]
theorem S_nthD {F : Nat} {ra rb : Nat → Int32} (ha : r12 ra) (hb : r12 rb) {p k : Nat} (hp : p < 10) (hk : k < ct (fx ra rb p) 1728) (hF : 144 < F) : ∃ f, f < 1728 ∧ isNth (fx ra rb p) k f ∧ M_FactSet_nthDifference F ra rb (nI p) (nI k) = some (nI f) := by
  obtain ⟨f, h1, h2, h3⟩ := S_nthD_L ha hb hp hk hF 144 0 F rfl hF (Nat.zero_le _)
  refine ⟨f, h1, h2, ?_⟩
  unfold M_FactSet_nthDifference
  exact bd_e (fun z9 => cs_ z9 (fun q10 => some (-1 : Int32)) (fun o => some o)) h3
theorem S_touched_L {F : Nat} {ra ca rb cb : Nat → Int32} (ha : FSok ra ca) (hb : FSok rb cb) (hF : 144 < F) : ∀ (d j n : Nat) (m : Int32), j + d = 10 → d < n → (∀ b, b < 32 → bt m b = (decide (b < j) && decide (0 < ct (fx ra rb b) 1728))) → ∃ m', M_FactSet_touched_L4 F ra ca rb cb n (nI j) m = some m' ∧ ∀ b, b < 32 → bt m' b = (decide (b < 10) && decide (0 < ct (fx ra rb b) 1728))
  | 0, j, n, m, hj, hn, hm => by
    obtain ⟨n, rfl⟩ : ∃ m, n = m + 1 := ⟨n - 1, by omega⟩
    have : j = 10 := by omega
    subst this
    unfold M_FactSet_touched_L4
    rw [if_pos (by decide +kernel)]
    exact ⟨m, rfl, hm⟩
  | d + 1, j, n, m, hj, hn, hm => by
    obtain ⟨n, rfl⟩ : ∃ m, n = m + 1 := ⟨n - 1, by omega⟩
    unfold M_FactSet_touched_L4
    have hl := ct_le (fx ra rb j) 1728
    rw [if_neg (show ¬ (10 : Int32) ≤ nI j from nI_ge (a := j) (b := 10) (by omega) (by decide)), bd_e _ (S_diff ha hb (show j < 10 by omega) hF)]
    by_cases h0 : ct (fx ra rb j) 1728 = 0
    · rw [h0, if_pos (show nI 0 ≤ 0 by decide +kernel), lt_e, nI_1]
      refine S_touched_L ha hb hF d (j + 1) n m (by omega) (by omega) (fun b hb2 => ?_)
      rw [hm b hb2]
      by_cases e : b = j
      · subst e; simp [h0]
      · have : (b < j + 1) ↔ (b < j) := by omega
        simp [this]
    · rw [if_neg (nI_nle (by omega) (by omega)), lt_e, lt_e, nI_1]
      refine S_touched_L ha hb hF d (j + 1) n _ (by omega) (by omega) (fun b hb2 => ?_)
      rw [b_or, bt_one j (by omega) b hb2, hm b hb2]
      by_cases e : b = j
      · subst e; simp; omega
      · have : (b < j + 1) ↔ (b < j) := by omega
        simp [this, e]
theorem S_touched {F : Nat} {ra ca rb cb : Nat → Int32} (ha : FSok ra ca) (hb : FSok rb cb) (hF : 144 < F) : ∃ m, M_FactSet_touched F ra ca rb cb = some m ∧ ∀ b, b < 32 → bt m b = (decide (b < 10) && decide (0 < ct (fx ra rb b) 1728)) := by
  obtain ⟨m, e, h⟩ := S_touched_L ha hb hF 10 0 F 0 rfl (by omega) (fun b _ => by rw [b_0]; simp)
  refine ⟨m, ?_, h⟩
  unfold M_FactSet_touched
  exact bd_e (fun z5 => some z5) e
theorem r_zero {row : Nat → Int32} (h : r12 row) {i : Nat} (hi : i < 1440) (h0 : ∀ b, b < 12 → bt (row i) b = false) : row i = 0 := by
  refine b_ext (fun b hb => ?_)
  rw [b_0]
  by_cases h1 : b < 12
  · exact h0 b h1
  · exact h i hi b (by omega)
theorem or_0 (x : Int32) : x ||| 0 = x := b_ext (fun b _ => by rw [b_or, b_0, Bool.or_false])
theorem S_absorb_L {F : Nat} {ro co : Nat → Int32} (ho : FSok ro co) {p : Nat} (hp : p < 10) : ∀ (d j n : Nat) (row : Nat → Int32), j + d = 144 → d < n →
    M_FactSet_absorb_L14 F ro (nI p) n (nI (144 * p + j)) (nI (fc ro p - ct (fh ro p) (12 * j))) row = some (fun i => if 144 * p + j ≤ i ∧ i < 144 * p + 144 then row i ||| ro i else row i)
  | 0, j, n, row, hj, hn => by
    obtain ⟨n, rfl⟩ : ∃ m, n = m + 1 := ⟨n - 1, by omega⟩
    have : j = 144 := by omega
    subst this
    unfold M_FactSet_absorb_L14
    rw [show (12 * 144 : Nat) = 1728 from rfl, show fc ro p - ct (fh ro p) 1728 = 0 by unfold fc; omega, if_pos (show nI 0 ≤ 0 by decide +kernel)]
    refine congrArg some (funext fun i => ?_)
    rw [if_neg (by omega)]
  | d + 1, j, n, row, hj, hn => by
    obtain ⟨n, rfl⟩ : ∃ m, n = m + 1 := ⟨n - 1, by omega⟩
    unfold M_FactSet_absorb_L14
    have la := ct_mono (fh ro p) (show 12 * j ≤ 1728 by omega)
    have la2 := ct_mono (fh ro p) (show 12 * (j + 1) ≤ 1728 by omega)
    have ma := fc_le ro p
    have ea := fc_row ro p j
    have hi : 144 * p + j < 1440 := by omega
    by_cases h0 : fc ro p - ct (fh ro p) (12 * j) = 0
    · rw [h0, if_pos (show nI 0 ≤ 0 by decide +kernel)]
      refine congrArg some (funext fun i => ?_)
      by_cases h1 : 144 * p + j ≤ i ∧ i < 144 * p + 144
      · rw [if_pos h1, r_zero ho.1 (i := i) (by omega) (fun b hb => ?_), or_0]
        have := ct_tail (f := fh ro p) (M := 12 * j) (N := 1728) (by omega) (by unfold fc at h0; omega) (n := 12 * (i - 144 * p) + b) (by omega) (by omega)
        rw [fh_at ro p _ b hb, show 144 * p + (i - 144 * p) = i by omega] at this
        exact this
      · rw [if_neg h1]
    · rw [if_neg (nI_nle (by omega) (by omega)), nI_1, f_mul, if_neg (nI_ge (a := 144 * p + j) (b := (p + 1) * 144) (by omega) (by omega)), gd_n _ hi (by decide), gd_n _ hi (by decide), lt_e, gd_n _ hi (by decide), lt_e, gd_n _ hi (by decide), nI_clamp (show 144 * p + j < 2 ^ 31 by omega), bd_e _ (S_bc (ho.1 _ hi)), lt_e, lt_e, nI_1, pk_sub (by unfold fc at *; omega)]
      rw [show fc ro p - ct (fh ro p) (12 * j) - ct (bt (ro (144 * p + j))) 12 = fc ro p - ct (fh ro p) (12 * (j + 1)) by unfold fc at *; omega, show 144 * p + j + 1 = 144 * p + (j + 1) by omega, S_absorb_L ho hp d (j + 1) n _ (by omega) (by omega)]
      refine congrArg some (funext fun i => ?_)
      rw [upd_fn]
      by_cases h1 : i = 144 * p + j
      · rw [if_pos h1, if_neg (show ¬ (144 * p + (j + 1) ≤ i ∧ i < 144 * p + 144) by omega), if_pos (show 144 * p + j ≤ i ∧ i < 144 * p + 144 by omega), h1]
      · rw [if_neg h1]
        by_cases h2 : 144 * p + (j + 1) ≤ i ∧ i < 144 * p + 144
        · rw [if_pos h2, if_pos (show 144 * p + j ≤ i ∧ i < 144 * p + 144 by omega)]
        · rw [if_neg h2, if_neg (show ¬ (144 * p + j ≤ i ∧ i < 144 * p + 144) by omega)]
theorem ct_or {f g : Nat → Bool} : ∀ {N : Nat}, (∀ n, n < N → (f n && g n) = false) → ct (fun n => f n || g n) N = ct f N + ct g N
  | 0, _ => rfl
  | n + 1, h => by
    rw [ct_s, ct_s, ct_s, ct_or (fun m hm => h m (by omega))]
    have := h n (by omega)
    cases hf : f n <;> cases hg : g n <;> rw [hf, hg] at this <;> simp at this <;> simp <;> omega
theorem S_absorb {F : Nat} {row count ro co : Nat → Int32} (h : FSok row count) (ho : FSok ro co) {p : Nat} (hp : p < 10) (hF : 144 < F) (hd : ∀ k, k < 1728 → (fh row p k && fh ro p k) = false) : ∃ row' count', M_FactSet_absorb F row count ro co (nI p) = some (row', count') ∧ FSok row' count' ∧ ∀ q k, q < 10 → k < 1728 → fh row' q k = (fh row q k || (decide (q = p) && fh ro q k)) := by
  have e := S_absorb_L (F := F) ho hp 144 0 F row rfl hF
  have hf : ∀ q k, q < 10 → k < 1728 → fh (fun i => if 144 * p + 0 ≤ i ∧ i < 144 * p + 144 then row i ||| ro i else row i) q k = (fh row q k || (decide (q = p) && fh ro q k)) := by
    intro q k hq hk
    unfold fh
    dsimp only
    by_cases e2 : q = p
    · subst e2
      rw [if_pos (by omega), b_or]; simp
    · rw [if_neg (by omega)]; simp [e2]
  refine ⟨_, upd count p (count p + co p), ?_, ⟨fun i hi b hb => ?_, fun q hq => ?_⟩, hf⟩
  · unfold M_FactSet_absorb
    rw [gd_n _ hp (by decide), lt_e, lt_e, nI_clamp (show p < 2 ^ 31 by omega), ho.2 p hp, f_mul, show p * 144 = 144 * p + 0 by omega]
    have e : M_FactSet_absorb_L14 F ro (nI p) F (nI (144 * p + 0)) (nI (fc ro p)) row = some (fun i => if 144 * p + 0 ≤ i ∧ i < 144 * p + 144 then row i ||| ro i else row i) := e
    rw [bd_e _ e, gd_n _ hp (by decide), gd_n _ hp (by decide), lt_e, gd_n _ hp (by decide), lt_e]
  · show bt (if 144 * p + 0 ≤ i ∧ i < 144 * p + 144 then row i ||| ro i else row i) b = false
    split
    · rw [b_or, h.1 i hi b hb, ho.1 i hi b hb]; rfl
    · exact h.1 i hi b hb
  · rw [upd_fn]
    by_cases e2 : q = p
    · subst e2
      rw [if_pos rfl, h.2 q hq, ho.2 q hq, nI_add]
      refine congrArg nI ?_
      unfold fc
      rw [← ct_or hd]
      exact ct_congr (fun k hk => by rw [hf q k hq hk]; simp)
    · rw [if_neg e2, h.2 q hq]
      exact congrArg nI (ct_congr (fun k hk => by rw [hf q k hq hk]; simp [e2]))
