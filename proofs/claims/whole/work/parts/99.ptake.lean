theorem or_b0 (s : Bool) : bI s ||| (0 : Int32) = bI s := by cases s <;> decide +kernel
theorem or_b1 (s : Bool) : bI s ||| (1 : Int32) = bI true := by cases s <;> decide +kernel
/-- some fresh fact of a member below j -/
def anyf (fr : Nat → Int32) (m : Int32) : Nat → Bool
  | 0 => false
  | j + 1 => anyf fr m j || (bt m j && decide (0 < fc fr j))
/-- the fresh facts of the members go to the facts and are the latest ones -/
theorem S_takeF_L {F : Nat} {m : Int32} {fr0 : Nat → Int32} (hF : 144 < F) : ∀ (d j n : Nat) (s : Bool) (fa fac fr frc la lac : Nat → Int32), j + d = 10 → d < n → FSok fa fac → FSok fr frc → FSok la lac → (∀ q k, j ≤ q → q < 10 → k < 1728 → fh fr q k = fh fr0 q k) → (∀ q k, q < 10 → k < 1728 → bt m q = true → j ≤ q → (fh fa q k && fh fr0 q k) = false) → s = anyf fr0 m j →
    ∃ fa' fac' fr' frc' la' lac', M_Deducer_takeFresh_L4 F m n (nI j) (bI s) fa fac fr frc la lac = some (bI (anyf fr0 m 10), fa', fac', fr', frc', la', lac') ∧ FSok fa' fac' ∧ FSok fr' frc' ∧ FSok la' lac' ∧ ∀ q k, q < 10 → k < 1728 → fh fa' q k = (fh fa q k || (decide (j ≤ q) && bt m q && fh fr0 q k)) ∧ fh fr' q k = (fh fr q k && !(decide (j ≤ q) && bt m q)) ∧ fh la' q k = (if j ≤ q ∧ bt m q = true then fh fr0 q k else fh la q k)
  | 0, j, n, s, fa, fac, fr, frc, la, lac, hj, hn, ha, hr, hl, _, _, hs => by
    obtain ⟨n, rfl⟩ : ∃ m, n = m + 1 := ⟨n - 1, by omega⟩
    have : j = 10 := by omega
    subst this
    unfold M_Deducer_takeFresh_L4
    rw [if_pos (by decide +kernel), hs]
    refine ⟨fa, fac, fr, frc, la, lac, rfl, ha, hr, hl, fun q k hq hk => ?_⟩
    have hq' : ¬ 10 ≤ q := by omega
    exact ⟨by simp [hq'], by simp [hq'], by rw [if_neg (fun z => hq' z.1)]⟩
  | d + 1, j, n, s, fa, fac, fr, frc, la, lac, hj, hn, ha, hr, hl, h0, hd, hs => by
    obtain ⟨n, rfl⟩ : ∃ m, n = m + 1 := ⟨n - 1, by omega⟩
    have hj2 : j < 10 := by omega
    have hss : anyf fr0 m (j + 1) = (anyf fr0 m j || (bt m j && decide (0 < fc fr0 j))) := rfl
    have hfc : fc fr j = fc fr0 j := ct_congr (fun k hk => h0 j k (Nat.le_refl j) hj2 hk)
    unfold M_Deducer_takeFresh_L4
    rw [if_neg (show ¬ (10 : Int32) ≤ nI j from nI_ge (a := j) (b := 10) hj2 (by decide))]
    by_cases c : bt m j = false
    · rw [if_pos ((bt_ask m (by omega)).mpr c), lt_e, nI_1]
      obtain ⟨fa', fac', fr', frc', la', lac', e, a1, a2, a3, g⟩ := S_takeF_L (F := F) (m := m) (fr0 := fr0) hF d (j + 1) n s fa fac fr frc la lac (by omega) (by omega) ha hr hl (fun q k a b z => h0 q k (by omega) b z) (fun q k a b z y => hd q k a b z (by omega)) (by rw [hs, hss, c]; simp)
      refine ⟨fa', fac', fr', frc', la', lac', e, a1, a2, a3, fun q k hq hk => ?_⟩
      obtain ⟨g1, g2, g3⟩ := g q k hq hk
      rw [g1, g2, g3]
      by_cases e2 : q = j
      · subst e2
        exact ⟨by simp [c], by simp [c], by rw [if_neg (by omega), if_neg (fun z => by rw [c] at z; exact absurd z.2 (by decide))]⟩
      · have : (j + 1 ≤ q) ↔ (j ≤ q) := by omega
        exact ⟨by simp [this], by simp [this], by simp only [this]⟩
    · rw [if_neg (fun z => c ((bt_ask m (by omega)).mp z))]
      rw [Bool.not_eq_false] at c
      obtain ⟨la1, lac1, b1, b2, b3⟩ := S_copyOne (row := la) (count := lac) hj2 hl hr
      obtain ⟨fa1, fac1, c1, c2, c3⟩ := S_absorb (F := F) ha hr hj2 hF (fun k hk => by rw [h0 j k (Nat.le_refl j) hj2 hk]; exact hd j k hj2 hk c (Nat.le_refl j))
      obtain ⟨fr1, d1, d2, d3⟩ := S_empty (F := F) hj2 hr hF
      have k1 : ∀ q k, j + 1 ≤ q → q < 10 → k < 1728 → fh fr1 q k = fh fr0 q k := fun q k a b z => by
        rw [d3 q k z, h0 q k (by omega) b z]
        have t1 : ¬ q = j := by omega
        simp [t1]
      have k2 : ∀ q k, q < 10 → k < 1728 → bt m q = true → j + 1 ≤ q → (fh fa1 q k && fh fr0 q k) = false := fun q k a b z y => by
        rw [c3 q k a b]
        have t1 : ¬ q = j := by omega
        have t2 := hd q k a b z (by omega)
        simpa [t1] using t2
      obtain ⟨fa', fac', fr', frc', la', lac', e, a1, a2, a3, g⟩ := S_takeF_L (F := F) (m := m) (fr0 := fr0) hF d (j + 1) n (anyf fr0 m (j + 1)) fa1 fac1 fr1 (upd frc j 0) la1 lac1 (by omega) (by omega) c2 d2 b2 k1 k2 rfl
      refine ⟨fa', fac', fr', frc', la', lac', ?_, a1, a2, a3, fun q k hq hk => ?_⟩
      · rw [bd_e _ (S_size hj2), hr.2 j hj2, hfc]
        by_cases z : fc fr0 j = 0
        · have es : bI s = bI (anyf fr0 m (j + 1)) := by rw [hs, hss, z]; simp
          rw [z, if_pos (show nI 0 ≤ 0 by decide +kernel), lt_e, or_b0, bd_e _ b1, bd_e _ c1, bd_e _ d1, lt_e, nI_1, es]
          exact e
        · have es : bI true = bI (anyf fr0 m (j + 1)) := by
            have t1 : 0 < fc fr0 j := by omega
            rw [hss, c]
            simp [t1]
          have := fc_le fr0 j
          rw [if_neg (nI_nle (by omega) (by omega)), lt_e, or_b1, bd_e _ b1, bd_e _ c1, bd_e _ d1, lt_e, nI_1, es]
          exact e
      · obtain ⟨g1, g2, g3⟩ := g q k hq hk
        rw [g1, g2, g3, c3 q k hq hk, d3 q k hk, b3 q k hq hk]
        by_cases e2 : q = j
        · subst e2
          have n1 : ¬ q + 1 ≤ q := by omega
          exact ⟨by simp [c, n1, h0 q k (Nat.le_refl q) hq hk], by simp [c], by rw [if_neg (fun z => n1 z.1), if_pos rfl, if_pos ⟨Nat.le_refl q, c⟩, h0 q k (Nat.le_refl q) hq hk]⟩
        · have : (j + 1 ≤ q) ↔ (j ≤ q) := by omega
          exact ⟨by simp [this, e2], by simp [this, e2], by simp only [this, e2, if_false]⟩
