/-! changed(k, what) on both sides -/
def dvc (row : Nat → Int32) (w : Int32) (p n : Nat) : Int32 := if w = 0 then nI p else if w = 1 then nI n else if w = 2 then bI (fh row p n) else -1
theorem S_descr {row : Nat → Int32} {p n : Nat} (hp : p < 10) (hn : n < 1728) (w : Int32) : M_Hall_describeChange row (nI p) (nI n) w = some (dvc row w p n) := by
  unfold M_Hall_describeChange dvc
  by_cases h0 : w = 0
  · rw [if_pos h0, if_pos h0]
  · by_cases h1 : w = 1
    · rw [if_neg h0, if_pos h1, if_neg h0, if_pos h1]
    · by_cases h2 : w = 2
      · rw [if_neg h0, if_neg h1, if_pos h2, if_neg h0, if_neg h1, if_pos h2, bd_e _ (S_has hp hn)]
        cases fh row p n <;> rfl
      · rw [if_neg h0, if_neg h1, if_neg h2, if_neg h0, if_neg h1, if_neg h2]
theorem sm_mono (f : Nat → Nat) {a b : Nat} (h : a ≤ b) : sm f a ≤ sm f b := by
  induction b with
  | zero => have : a = 0 := by omega
            subst this; exact Nat.le_refl _
  | succ b ih =>
    by_cases e : a = b + 1
    · subst e; exact Nat.le_refl _
    · have := ih (by omega)
      show sm f a ≤ sm f b + f b
      omega
theorem sm_le (f : Nat → Nat) {M : Nat} (h : ∀ p, f p ≤ M) : ∀ n, sm f n ≤ M * n
  | 0 => Nat.le_refl 0
  | n + 1 => by
    have h1 := sm_le f h n
    have h2 := h n
    show sm f n + f n ≤ M * (n + 1)
    rw [Nat.mul_succ]; omega
theorem S_chg_L {F : Nat} {ra ca rb cb : Nat → Int32} (ha : FSok ra ca) (hb : FSok rb cb) (hF : 144 < F) (w : Int32) {k : Nat} (hk2 : k < 2 ^ 31) : ∀ (d j n : Nat), j + d = 10 → d < n → sm (fun p => ct (fx ra rb p) 1728) j ≤ k →
    (k < sm (fun p => ct (fx ra rb p) 1728) 10 → ∃ p m, p < 10 ∧ m < 1728 ∧ fx ra rb p m = true ∧ sm (fun p => ct (fx ra rb p) 1728) p + ct (fx ra rb p) m = k ∧ M_Hall_changed_L11 F ra ca rb cb w n (nI j) (nI (k - sm (fun p => ct (fx ra rb p) 1728) j)) = some (.inr (dvc ra w p m))) ∧
    (sm (fun p => ct (fx ra rb p) 1728) 10 ≤ k → M_Hall_changed_L11 F ra ca rb cb w n (nI j) (nI (k - sm (fun p => ct (fx ra rb p) 1728) j)) = some (.inl ()))
  | 0, j, n, hj, hn, hc => by
    obtain ⟨n, rfl⟩ : ∃ m, n = m + 1 := ⟨n - 1, by omega⟩
    have : j = 10 := by omega
    subst this
    refine ⟨fun h => absurd h (by omega), fun _ => ?_⟩
    unfold M_Hall_changed_L11
    rw [if_pos (by decide +kernel)]
  | d + 1, j, n, hj, hn, hc => by
    obtain ⟨n, rfl⟩ : ∃ m, n = m + 1 := ⟨n - 1, by omega⟩
    unfold M_Hall_changed_L11
    have hs : sm (fun p => ct (fx ra rb p) 1728) (j + 1) = sm (fun p => ct (fx ra rb p) 1728) j + ct (fx ra rb j) 1728 := rfl
    have hl := ct_le (fx ra rb j) 1728
    have hm := sm_mono (fun p => ct (fx ra rb p) 1728) (show j + 1 ≤ 10 by omega)
    rw [if_neg (show ¬ (10 : Int32) ≤ nI j from nI_ge (a := j) (b := 10) (by omega) (by decide)), bd_e _ (S_diff ha hb (show j < 10 by omega) hF)]
    by_cases he : ct (fx ra rb j) 1728 ≤ k - sm (fun p => ct (fx ra rb p) 1728) j
    · rw [if_pos (nI_le he (by omega)), lt_e, lt_e, nI_1, pk_sub he, show k - sm (fun p => ct (fx ra rb p) 1728) j - ct (fx ra rb j) 1728 = k - sm (fun p => ct (fx ra rb p) 1728) (j + 1) by omega]
      exact S_chg_L ha hb hF w hk2 d (j + 1) n (by omega) (by omega) (by omega)
    · rw [if_neg (nI_ge (by omega) (by omega))]
      obtain ⟨m, hm1, hm2, hm3⟩ := S_nthD (F := F) ha.1 hb.1 (show j < 10 by omega) (k := k - sm (fun p => ct (fx ra rb p) 1728) j) (by omega) hF
      refine ⟨fun _ => ⟨j, m, by omega, hm1, hm2.1, by rw [hm2.2]; omega, ?_⟩, fun h => absurd h (by omega)⟩
      rw [bd_e _ hm3, bd_e _ (S_descr (by omega) hm1 w)]
def dvm (holds : Nat → Int32) (w : Int32) (i : Nat) : Int32 := if w = 0 then nI (i / 1728) else if w = 1 then nI (i % 1728) else if holds i = 0 then 0 else 1
theorem S_chgM_L {F : Nat} {a b : Nat → Int32} {th w : Int32} {k : Nat} (hk2 : k < 2 ^ 31) : ∀ (d j n : Nat), j + d = 17280 → d < n → ct (hd_ a b) j ≤ k →
    (k < ct (hd_ a b) 17280 → ∃ i, i < 17280 ∧ isNth (hd_ a b) k i ∧ M_Model_changed_L32 F th a b (nI k) w n (nI j) (nI (ct (hd_ a b) j)) = some (.inr (dvm a w i, th))) ∧
    (ct (hd_ a b) 17280 ≤ k → M_Model_changed_L32 F th a b (nI k) w n (nI j) (nI (ct (hd_ a b) j)) = some (.inl ()))
  | 0, j, n, hj, hn, hc => by
    obtain ⟨n, rfl⟩ : ∃ m, n = m + 1 := ⟨n - 1, by omega⟩
    have : j = 17280 := by omega
    subst this
    refine ⟨fun h => absurd h (by omega), fun _ => ?_⟩
    unfold M_Model_changed_L32
    rw [if_pos (by decide +kernel)]
  | d + 1, j, n, hj, hn, hc => by
    obtain ⟨n, rfl⟩ : ∃ m, n = m + 1 := ⟨n - 1, by omega⟩
    unfold M_Model_changed_L32
    have hs := ct_s (hd_ a b) j
    have hl := ct_le (hd_ a b) 17280
    have hl3 := ct_mono (hd_ a b) (show j + 1 ≤ 17280 by omega)
    have hj2 : j < 17280 := by omega
    rw [if_neg (show ¬ (17280 : Int32) ≤ nI j from nI_ge (a := j) (b := 17280) hj2 (by decide)), gd_n _ hj2 (by decide), gd_n _ hj2 (by decide), nI_clamp (show j < 2 ^ 31 by omega)]
    by_cases h : a j = b j
    · have hf : hd_ a b j = false := by unfold hd_; simp [h]
      rw [hf] at hs
      have hs : ct (hd_ a b) (j + 1) = ct (hd_ a b) j := hs
      rw [if_pos h, lt_e, nI_1, ← hs]
      exact S_chgM_L hk2 d (j + 1) n (by omega) (by omega) (by omega)
    · have hf : hd_ a b j = true := by unfold hd_; simp [h]
      rw [hf] at hs
      have hs : ct (hd_ a b) (j + 1) = ct (hd_ a b) j + 1 := hs
      rw [if_neg h]
      by_cases he : ct (hd_ a b) j = k
      · refine ⟨fun _ => ⟨j, hj2, ⟨hf, he⟩, ?_⟩, fun h2 => absurd h2 (by omega)⟩
        have e1 : nI j / (1728 : Int32) = nI (j / 1728) := pk_div (d := 1728) (by omega) (by decide) (by decide)
        have e2 : nI j - nI j / (1728 : Int32) * (1728 : Int32) = nI (j % 1728) := pk_rem (d := 1728) (by omega) (by decide) (by decide)
        rw [if_pos (by rw [he])]
        unfold dvm
        by_cases w0 : w = 0
        · rw [if_pos w0, if_pos w0, e1]
        · by_cases w1 : w = 1
          · rw [if_neg w0, if_pos w1, if_neg w0, if_pos w1, e2]
          · rw [if_neg w0, if_neg w1, if_neg w0, if_neg w1, gd_n _ hj2 (by decide)]
            split <;> rfl
      · rw [if_neg (fun z => he ((nI_eq (by omega) hk2).mp z)), lt_e, lt_e, nI_1, nI_1, ← hs]
        exact S_chgM_L hk2 d (j + 1) n (by omega) (by omega) (by omega)
theorem i_range2 {x : Int32} (h0 : ¬ x = 0) (h1 : ¬ x = 1) (h2 : ¬ x = 2) (a : ¬ x < 0) : ¬ x ≤ 2 := fun h => by
  obtain ⟨j, hj, rfl⟩ := nI_of2 (M := 2) (n := 2) (by decide) a h
  have : j = 0 ∨ j = 1 ∨ j = 2 := by omega
  rcases this with rfl | rfl | rfl
  · exact h0 rfl
  · exact h1 rfl
  · exact h2 rfl
theorem le_of_nlt {x : Int32} (h : ¬ x < 0) : 0 ≤ x := by
  simp only [Int32.lt_iff_toInt_lt, Int32.le_iff_toInt_le] at *
  omega
theorem nle_of_lt {x : Int32} (h : x < 0) : ¬ 0 ≤ x := by
  simp only [Int32.lt_iff_toInt_lt, Int32.le_iff_toInt_le] at *
  omega
/-- changed(k, what): alike. Where the reference has no changes, the class' two sets are alike -/
theorem E_changed {F : Nat} {ra ca rb cb a b : Nat → Int32} (ha : FSok ra ca) (hb : FSok rb cb) (hra : RS ra a) (ch : Int32) (hch : (ch = 0 ∧ ∀ p n, p < 10 → n < 1728 → fx ra rb p n = false) ∨ (¬ ch = 0 ∧ RS rb b)) (hF : 17280 < F) (th x0 x1 : Int32) : ∃ r, M_Hall_changed F ra ca rb cb x0 x1 = some r ∧ M_Model_changed F th a b ch x0 x1 = some (r, 0) := by
  by_cases h0 : x0 < 0
  · refine ⟨-1, ?_, ?_⟩
    · unfold M_Hall_changed; rw [if_neg (nle_of_lt h0)]
    · unfold M_Model_changed
      by_cases hc : ch = 0
      · rw [if_pos hc]
      · rw [if_neg hc, if_pos h0]
  · obtain ⟨k, hk2, rfl⟩ := nI_of h0
    have hcl := S_chg_L (F := F) ha hb (by omega) x1 hk2 10 0 F rfl (by omega) (Nat.zero_le _)
    have hM : ∀ r : Int32, M_Hall_changed_L11 F ra ca rb cb x1 F (nI 0) (nI (k - sm (fun p => ct (fx ra rb p) 1728) 0)) = some (.inr r) → M_Hall_changed F ra ca rb cb (nI k) x1 = some r := fun r h => by
      unfold M_Hall_changed
      rw [if_pos (nI_pos' hk2)]
      exact bd_e (fun z6 => cs_ z6 (fun q7 => some (-1 : Int32)) (fun o => some o)) h
    have hM0 : M_Hall_changed_L11 F ra ca rb cb x1 F (nI 0) (nI (k - sm (fun p => ct (fx ra rb p) 1728) 0)) = some (.inl ()) → M_Hall_changed F ra ca rb cb (nI k) x1 = some (-1) := fun h => by
      unfold M_Hall_changed
      rw [if_pos (nI_pos' hk2)]
      exact bd_e (fun z6 => cs_ z6 (fun q7 => some (-1 : Int32)) (fun o => some o)) h
    rcases hch with ⟨hc, hz⟩ | ⟨hc, hrb⟩
    · refine ⟨-1, hM0 (hcl.2 ?_), by unfold M_Model_changed; rw [if_pos hc]⟩
      have : sm (fun p => ct (fx ra rb p) 1728) 10 = sm (fun _ => 0) 10 := sm_congr (fun p hp => by
        rw [ct_congr (g := fun _ => false) (fun n hn => hz p n hp hn), ct_false])
      rw [this]
      exact Nat.zero_le k
    · have hG : ct (hd_ a b) 17280 = sm (fun p => ct (fx ra rb p) 1728) 10 := hd_blocks hra hrb (Nat.le_refl 10)
      rcases Nat.lt_or_ge k (sm (fun p => ct (fx ra rb p) 1728) 10) with hlt | hge
      · obtain ⟨p, m, hp, hm, hf, hk, he⟩ := hcl.1 hlt
        refine ⟨_, hM _ he, ?_⟩
        unfold M_Model_changed
        rw [if_neg hc, if_neg h0]
        by_cases n1 : x1 < 0
        · rw [if_pos n1]
          have q0 : ¬ x1 = 0 := fun z => by subst z; exact absurd n1 (by decide)
          have q1 : ¬ x1 = 1 := fun z => by subst z; exact absurd n1 (by decide)
          have q2 : ¬ x1 = 2 := fun z => by subst z; exact absurd n1 (by decide)
          unfold dvc
          rw [if_neg q0, if_neg q1, if_neg q2]
        · rw [if_neg n1]
          by_cases n2 : x1 ≤ 2
          · rw [if_pos n2]
            obtain ⟨i, hi, hn, e⟩ := (S_chgM_L (F := F) (a := a) (b := b) (th := 0) (w := x1) hk2 17280 0 F rfl hF (Nat.zero_le _)).1 (by rw [hG]; exact hlt)
            have hn' : isNth (hd_ a b) k (1728 * p + m) := by
              refine ⟨by rw [hra.hd hrb hp hm]; exact hf, ?_⟩
              rw [ct_add, hd_blocks hra hrb (by omega), ct_congr (g := fx ra rb p) (fun n hn => hra.hd hrb hp (by omega)), hk]
            have hi2 : i = 1728 * p + m := isNth_uniq hn hn'
            subst hi2
            have ed : dvm a x1 (1728 * p + m) = dvc ra x1 p m := by
              unfold dvm dvc
              by_cases q0 : x1 = 0
              · rw [if_pos q0, if_pos q0, show (1728 * p + m) / 1728 = p by omega]
              · by_cases q1 : x1 = 1
                · rw [if_neg q0, if_pos q1, if_neg q0, if_pos q1, show (1728 * p + m) % 1728 = m by omega]
                · by_cases q2 : x1 = 2
                  · rw [if_neg q0, if_neg q1, if_neg q0, if_neg q1, if_pos q2, hra p m hp hm]
                    cases fh ra p m <;> rfl
                  · exact absurd n2 (i_range2 q0 q1 q2 n1)
            rw [← ed]
            exact bd_e (fun z4 => cs_ z4 (fun q5 => some ((-1 : Int32), (0 : Int32))) (fun o => some o)) e
          · rw [if_neg n2]
            have q0 : ¬ x1 = 0 := fun z => by subst z; exact n2 (by decide)
            have q1 : ¬ x1 = 1 := fun z => by subst z; exact n2 (by decide)
            have q2 : ¬ x1 = 2 := fun z => by subst z; exact n2 (by decide)
            unfold dvc
            rw [if_neg q0, if_neg q1, if_neg q2]
      · refine ⟨-1, hM0 (hcl.2 hge), ?_⟩
        unfold M_Model_changed
        rw [if_neg hc, if_neg h0]
        by_cases n1 : x1 < 0
        · rw [if_pos n1]
        · rw [if_neg n1]
          by_cases n2 : x1 ≤ 2
          · rw [if_pos n2]
            have e := (S_chgM_L (F := F) (a := a) (b := b) (th := 0) (w := x1) hk2 17280 0 F rfl hF (Nat.zero_le _)).2 (by rw [hG]; exact hge)
            exact bd_e (fun z4 => cs_ z4 (fun q5 => some ((-1 : Int32), (0 : Int32))) (fun o => some o)) e
          · rw [if_neg n2]
