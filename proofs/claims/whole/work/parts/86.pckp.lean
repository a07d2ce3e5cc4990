/-! the checkpoint: its facts are BASE ones -/
def km (kept kind : Nat → Int32) (i : Nat) : Bool := hb kept i && decide (kind (i / 1728) = 1)
theorem d1728 {i : Nat} (hi : i < 17280) : nI i / (1728 : Int32) = nI (i / 1728) := pk_div (d := 1728) (by omega) (by decide) (by decide)
theorem S_base_L {F : Nat} {kind kept : Nat → Int32} : ∀ (d j n : Nat), j + d = 17280 → d < n → M_Model_baseMany_L4 F kind kept n (nI j) (nI (ct (km kept kind) j)) = some (nI (ct (km kept kind) 17280))
  | 0, j, n, hj, hn => by
    obtain ⟨n, rfl⟩ : ∃ m, n = m + 1 := ⟨n - 1, by omega⟩
    have : j = 17280 := by omega
    subst this
    unfold M_Model_baseMany_L4
    rw [if_pos (by decide +kernel)]
  | d + 1, j, n, hj, hn => by
    obtain ⟨n, rfl⟩ : ∃ m, n = m + 1 := ⟨n - 1, by omega⟩
    unfold M_Model_baseMany_L4
    have hs := ct_s (km kept kind) j
    have hj2 : j < 17280 := by omega
    rw [if_neg (show ¬ (17280 : Int32) ≤ nI j from nI_ge (a := j) (b := 17280) hj2 (by decide)), gd_n _ hj2 (by decide), nI_clamp (show j < 2 ^ 31 by omega)]
    by_cases h : kept j = 0
    · have hf : km kept kind j = false := by unfold km hb; simp [h]
      rw [hf] at hs
      rw [if_pos h, lt_e, lt_e, nI_1, nI_p0, ← (show ct (km kept kind) (j + 1) = ct (km kept kind) j from hs)]
      exact S_base_L d (j + 1) n (by omega) (by omega)
    · rw [if_neg h, d1728 hj2, gd_n _ (show j / 1728 < 10 by omega) (by decide), lt_e, nI_clamp (show j / 1728 < 2 ^ 31 by omega)]
      by_cases hk : kind (j / 1728) = 1
      · have hf : km kept kind j = true := by unfold km hb; simp [h, hk]
        rw [hf] at hs
        rw [if_pos hk, lt_e, lt_e, nI_1, nI_1, ← (show ct (km kept kind) (j + 1) = ct (km kept kind) j + 1 from hs)]
        exact S_base_L d (j + 1) n (by omega) (by omega)
      · have hf : km kept kind j = false := by unfold km hb; simp [hk]
        rw [hf] at hs
        rw [if_neg hk, lt_e, lt_e, nI_1, nI_p0, ← (show ct (km kept kind) (j + 1) = ct (km kept kind) j from hs)]
        exact S_base_L d (j + 1) n (by omega) (by omega)
theorem S_base {F : Nat} {kind kept : Nat → Int32} (hF : 17280 < F) : M_Model_baseMany F kind kept = some (nI (ct (km kept kind) 17280)) := by
  unfold M_Model_baseMany
  exact bd_e (fun z8 => some z8) (S_base_L (F := F) 17280 0 F rfl hF)
/-- a set of BASE facts alone -/
def BO (kind row : Nat → Int32) : Prop := ∀ p n, p < 10 → n < 1728 → ¬ kind p = 1 → fh row p n = false
theorem km_sum {row kept kind : Nat → Int32} (hr : RS row kept) (hb2 : BO kind row) : ct (km kept kind) 17280 = sm (fc row) 10 := by
  rw [show (17280 : Nat) = 1728 * 10 from rfl, ct_blocks]
  refine sm_congr (fun p hp => ct_congr (fun n hn => ?_))
  unfold km hb
  rw [hr p n hp hn, bI_e, show (1728 * p + n) / 1728 = p by omega]
  by_cases hk : kind p = 1
  · simp [hk]
  · rw [hb2 p n hp hn hk]; rfl
theorem E_log {F : Nat} {row count kept kind : Nat → Int32} (h : FSok row count) (hr : RS row kept) (hb2 : BO kind row) (hF : 17280 < F) (safe st lo th x : Int32) : ∃ r, M_Hall_log F safe count st lo x = some r ∧ M_Model_log F th kind kept st lo safe x = some (r, 0) := by
  unfold M_Hall_log M_Model_log
  by_cases h0 : x = 0
  · exact ⟨lo, by rw [if_pos h0]; rfl, by rw [if_pos h0]⟩
  · by_cases h1 : x = 1
    · exact ⟨safe, by rw [if_neg h0, if_pos h1], by rw [if_neg h0, if_pos h1]⟩
    · by_cases h2 : x = 2
      · exact ⟨st, by rw [if_neg h0, if_neg h1, if_pos h2]; rfl, by rw [if_neg h0, if_neg h1, if_pos h2]⟩
      · by_cases h3 : x = 3
        · refine ⟨nI (sm (fc row) 10), ?_, ?_⟩
          · rw [if_neg h0, if_neg h1, if_neg h2, if_pos h3, bd_e _ (S_total h (by omega))]
          · rw [if_neg h0, if_neg h1, if_neg h2, if_pos h3, bd_e _ (S_base hF), km_sum hr hb2]
        · exact ⟨-1, by rw [if_neg h0, if_neg h1, if_neg h2, if_neg h3], by rw [if_neg h0, if_neg h1, if_neg h2, if_neg h3]⟩
theorem S_ckp_L {F : Nat} {nr nc sort : Nat → Int32} (hn0 : FSok nr nc) : ∀ (d j n : Nat) (row count : Nat → Int32), j + d = 10 → d < n → FSok row count → ∃ row' count', M_Hall_checkpoint_L2 F nr nc sort n (nI j) row count = some (row', count') ∧ FSok row' count' ∧ ∀ q k, q < 10 → k < 1728 → fh row' q k = if j ≤ q ∧ sort q = 1 then fh nr q k else fh row q k
  | 0, j, n, row, count, hj, hn, h => by
    obtain ⟨n, rfl⟩ : ∃ m, n = m + 1 := ⟨n - 1, by omega⟩
    have : j = 10 := by omega
    subst this
    unfold M_Hall_checkpoint_L2
    rw [if_pos (by decide +kernel)]
    exact ⟨row, count, rfl, h, fun q k hq hk => by rw [if_neg (by omega)]⟩
  | d + 1, j, n, row, count, hj, hn, h => by
    obtain ⟨n, rfl⟩ : ∃ m, n = m + 1 := ⟨n - 1, by omega⟩
    unfold M_Hall_checkpoint_L2
    have hj2 : j < 10 := by omega
    rw [if_neg (show ¬ (10 : Int32) ≤ nI j from nI_ge (a := j) (b := 10) hj2 (by decide)), gd_n _ hj2 (by decide), nI_clamp (show j < 2 ^ 31 by omega)]
    by_cases hs : sort j = 1
    · obtain ⟨row1, count1, e1, h1, f1⟩ := S_copyOne (row := row) (count := count) hj2 h hn0
      rw [if_pos hs, bd_e _ e1, lt_e, nI_1]
      obtain ⟨row2, count2, e2, h2, f2⟩ := S_ckp_L (F := F) (sort := sort) hn0 d (j + 1) n row1 count1 (by omega) (by omega) h1
      refine ⟨row2, count2, e2, h2, fun q k hq hk => ?_⟩
      rw [f2 q k hq hk, f1 q k hq hk]
      by_cases e : q = j
      · subst e
        rw [if_neg (by omega), if_pos rfl, if_pos ⟨Nat.le_refl q, hs⟩]
      · rw [if_neg e]
        by_cases c : j ≤ q ∧ sort q = 1
        · rw [if_pos c, if_pos ⟨by omega, c.2⟩]
        · rw [if_neg c, if_neg (fun z => c ⟨by omega, z.2⟩)]
    · rw [if_neg hs, lt_e, nI_1]
      obtain ⟨row2, count2, e2, h2, f2⟩ := S_ckp_L (F := F) (sort := sort) hn0 d (j + 1) n row count (by omega) (by omega) h
      refine ⟨row2, count2, e2, h2, fun q k hq hk => ?_⟩
      rw [f2 q k hq hk]
      by_cases c : j ≤ q ∧ sort q = 1
      · have : q ≠ j := fun z => hs (z ▸ c.2)
        rw [if_pos c, if_pos ⟨by omega, c.2⟩]
      · rw [if_neg c, if_neg (fun z => c ⟨by omega, z.2⟩)]
theorem S_ckpM_L {F : Nat} {kind holds : Nat → Int32} : ∀ (d j n : Nat) (kept : Nat → Int32), j + d = 17280 → d < n → ∃ kept', M_Model_checkpoint_L7 F kind holds n (nI j) kept = some kept' ∧ ∀ i, i < 17280 → kept' i = if j ≤ i then bI (km holds kind i) else kept i
  | 0, j, n, kept, hj, hn => by
    obtain ⟨n, rfl⟩ : ∃ m, n = m + 1 := ⟨n - 1, by omega⟩
    have : j = 17280 := by omega
    subst this
    unfold M_Model_checkpoint_L7
    rw [if_pos (by decide +kernel)]
    exact ⟨kept, rfl, fun i hi => by rw [if_neg (by omega)]⟩
  | d + 1, j, n, kept, hj, hn => by
    obtain ⟨n, rfl⟩ : ∃ m, n = m + 1 := ⟨n - 1, by omega⟩
    unfold M_Model_checkpoint_L7
    have hj2 : j < 17280 := by omega
    have n0 : vp_nar .boolean (0 : Int32) = 0 := by decide +kernel
    have n1 : vp_nar .boolean (1 : Int32) = 1 := by decide +kernel
    have go : ∀ x : Int32, x = bI (km holds kind j) → ∃ kept', M_Model_checkpoint_L7 F kind holds n (nI (j + 1)) (upd kept j x) = some kept' ∧ ∀ i, i < 17280 → kept' i = if j ≤ i then bI (km holds kind i) else kept i := fun x ex => by
      obtain ⟨kept', e, f⟩ := S_ckpM_L (F := F) (kind := kind) (holds := holds) d (j + 1) n (upd kept j x) (by omega) (by omega)
      refine ⟨kept', e, fun i hi => ?_⟩
      rw [f i hi]
      by_cases e1 : i = j
      · subst e1
        rw [if_neg (by omega), if_pos (Nat.le_refl i), pk_us, ex]
      · rw [pk_un e1]
        by_cases c : j ≤ i
        · rw [if_pos c, if_pos (by omega)]
        · rw [if_neg c, if_neg (by omega)]
    rw [if_neg (show ¬ (17280 : Int32) ≤ nI j from nI_ge (a := j) (b := 17280) hj2 (by decide)), gd_n _ hj2 (by decide), nI_clamp (show j < 2 ^ 31 by omega)]
    by_cases h : holds j = 0
    · rw [if_pos h, gd_n _ hj2 (by decide), lt_e, lt_e, nI_1, n0]
      exact go 0 (by unfold km hb; simp [h, bI])
    · rw [if_neg h, d1728 hj2, gd_n _ (show j / 1728 < 10 by omega) (by decide), lt_e, nI_clamp (show j / 1728 < 2 ^ 31 by omega)]
      by_cases hk : kind (j / 1728) = 1
      · rw [if_pos hk, gd_n _ hj2 (by decide), lt_e, lt_e, nI_1, n1]
        exact go 1 (by unfold km hb; simp [h, hk, bI])
      · rw [if_neg hk, gd_n _ hj2 (by decide), lt_e, lt_e, nI_1, n0]
        exact go 0 (by unfold km hb; simp [hk, bI])
/-- checkpoint(): alike; its facts are the BASE ones that hold -/
theorem E_checkpoint {F : Nat} {nr nc sr sc holds kept sort arity stratum kind width strat : Nat → Int32} (hn : FSok nr nc) (hs : FSok sr sc) (hr : RS nr holds) (hp : PRel sort arity stratum kind width strat) (hb2 : BO kind sr) (hF : 17280 < F) {k : Nat} (hk : k < 2 ^ 31) (safe safe2 th : Int32) : ∃ r sr' sc' kept', M_Hall_checkpoint F safe nr nc sr sc (nI k) sort = some (r, 0, sr', sc', nI 0) ∧ M_Model_checkpoint F th kind holds kept (nI k) safe2 = some (r, 0, kept', 0, 0) ∧ FSok sr' sc' ∧ RS sr' kept' ∧ BO kind sr' := by
  obtain ⟨sr', sc', e1, h1, f1⟩ := S_ckp_L (F := F) (sort := sort) hn 10 0 F sr sc rfl (by omega) hs
  obtain ⟨kept', e2, f2⟩ := S_ckpM_L (F := F) (kind := kind) (holds := holds) 17280 0 F kept rfl hF
  have hf : ∀ p n, p < 10 → n < 1728 → fh sr' p n = (fh nr p n && decide (kind p = 1)) := fun p n h10 hn2 => by
    rw [f1 p n h10 hn2, (hp p h10).1]
    by_cases c : kind p = 1
    · rw [if_pos ⟨Nat.zero_le p, c⟩]; simp [c]
    · rw [if_neg (fun z => c z.2), hb2 p n h10 hn2 c]; simp [c]
  have hrs : RS sr' kept' := fun p n h10 hn2 => by
    rw [f2 _ (by omega), if_pos (Nat.zero_le _), hf p n h10 hn2]
    unfold km hb
    rw [hr p n h10 hn2, bI_e, show (1728 * p + n) / 1728 = p by omega]
  have hbo : BO kind sr' := fun p n h10 hn2 c => by rw [hf p n h10 hn2]; simp [c]
  refine ⟨nI (sm (fc sr') 10), sr', sc', kept', ?_, ?_, h1, hrs, hbo⟩
  · unfold M_Hall_checkpoint
    have e1 : M_Hall_checkpoint_L2 F nr nc sort F (0 : Int32) sr sc = some (sr', sc') := e1
    rw [bd_e _ e1, bd_e _ (show M_Journal_shorten (nI k) (0 : Int32) = some (nI 0) from S_shorten hk (Nat.zero_le k)), bd_e _ (S_total h1 (by omega))]
  · unfold M_Model_checkpoint
    have e2 : M_Model_checkpoint_L7 F kind holds F (0 : Int32) kept = some kept' := e2
    rw [bd_e _ e2, bd_e _ (S_base hF), km_sum hrs hbo]
