/-! puts and removes done in their order, on both sides -/
/-- the facts behind the first j puts and removes -/
def rpl (puts who number : Nat → Int32) (G : Nat → Nat → Bool) : Nat → Nat → Nat → Bool
  | 0, q, k => G q k
  | j + 1, q, k => if nI q = who j ∧ nI k = number j then !decide (puts j = 0) else rpl puts who number G j q k
theorem rpl_at {puts who number : Nat → Int32} {G : Nat → Nat → Bool} {j p n q k : Nat} {b : Bool} (hw : who j = nI p) (hn : number j = nI n) (hb : puts j = bI b) (hp : p < 10) (hn2 : n < 1728) (hq : q < 10) (hk : k < 1728) : rpl puts who number G (j + 1) q k = if q = p ∧ k = n then b else rpl puts who number G j q k := by
  show (if nI q = who j ∧ nI k = number j then !decide (puts j = 0) else rpl puts who number G j q k) = _
  rw [hw, hn, hb, bI_e]
  have : (nI q = nI p ∧ nI k = nI n) ↔ (q = p ∧ k = n) := by rw [nI_eq (by omega) (by omega), nI_eq (by omega) (by omega)]
  by_cases c : q = p ∧ k = n
  · rw [if_pos (this.mpr c), if_pos c]
  · rw [if_neg (fun z => c (this.mp z)), if_neg c]
theorem S_rep_L {F N : Nat} {kind puts who number stage : Nat → Int32} {K : Nat} (hj0 : JR kind puts who number stage K) (hK : K ≤ N) (hN : N < 2 ^ 31) (G : Nat → Nat → Bool) : ∀ (d j f : Nat) (row count : Nat → Int32), j + d = K → d < f → FSok row count → (∀ q k, q < 10 → k < 1728 → fh row q k = rpl puts who number G j q k) →
    ∃ row' count', M_Journal_replay_L2 F N puts who number (nI K) f (nI j) row count = some (row', count') ∧ FSok row' count' ∧ ∀ q k, q < 10 → k < 1728 → fh row' q k = rpl puts who number G K q k
  | 0, j, f, row, count, hj, hf, h, hG => by
    obtain ⟨f, rfl⟩ : ∃ m, f = m + 1 := ⟨f - 1, by omega⟩
    have : j = K := by omega
    subst this
    unfold M_Journal_replay_L2
    rw [if_pos (nI_le (Nat.le_refl j) (by omega))]
    exact ⟨row, count, rfl, h, hG⟩
  | d + 1, j, f, row, count, hj, hf, h, hG => by
    obtain ⟨f, rfl⟩ : ∃ m, f = m + 1 := ⟨f - 1, by omega⟩
    obtain ⟨p, n, b, hp, hn, hk, e1, e2, e3, e4⟩ := hj0 j (by omega)
    have hjN : j < N := by omega
    unfold M_Journal_replay_L2
    rw [if_neg (nI_ge (a := j) (b := K) (by omega) (by omega)), gd_n _ hjN hN, nI_clamp (show j < 2 ^ 31 by omega), e1, e2, e3]
    cases b with
    | false =>
      obtain ⟨row1, count1, g1, g2, g3⟩ := S_dropX (row := row) (count := count) hp hn h
      rw [if_pos bI_f, gd_n _ hjN hN, gd_n _ hjN hN, bd_e _ g1, lt_e, nI_1]
      refine S_rep_L hj0 hK hN G d (j + 1) f row1 count1 (by omega) (by omega) g2 (fun q k hq hk2 => ?_)
      rw [rpl_at e1 e2 e3 hp hn hq hk2, g3 q k hk2, hG q k hq hk2]
      by_cases c : q = p ∧ k = n
      · rw [if_pos c]; simp [c]
      · rw [if_neg c]; simp [c]
    | true =>
      obtain ⟨row1, count1, g1, g2, g3⟩ := S_addX (row := row) (count := count) hp hn h
      rw [if_neg bI_t, gd_n _ hjN hN, gd_n _ hjN hN, bd_e _ g1, lt_e, nI_1]
      refine S_rep_L hj0 hK hN G d (j + 1) f row1 count1 (by omega) (by omega) g2 (fun q k hq hk2 => ?_)
      rw [rpl_at e1 e2 e3 hp hn hq hk2, g3 q k hk2, hG q k hq hk2]
      by_cases c : q = p ∧ k = n
      · rw [if_pos c]; simp [c]
      · rw [if_neg c]; simp [c]
theorem S_replay {F N : Nat} {kind puts who number stage row count : Nat → Int32} {K : Nat} (hj0 : JR kind puts who number stage K) (hK : K ≤ N) (hN : N < 2 ^ 31) (hF : K < F) (h : FSok row count) : ∃ row' count', M_Journal_replay F N puts who number (nI K) row count = some (row', count') ∧ FSok row' count' ∧ ∀ q k, q < 10 → k < 1728 → fh row' q k = rpl puts who number (fh row) K q k := by
  obtain ⟨row', count', e, h1, h2⟩ := S_rep_L (F := F) hj0 hK hN (fh row) K 0 F row count (by omega) hF h (fun q k _ _ => rfl)
  refine ⟨row', count', ?_, h1, h2⟩
  unfold M_Journal_replay
  exact bd_e (fun z5 => some (z5.1, z5.2)) e
/-- what isn't BASE stays -/
theorem rpl_stays {kind puts who number stage : Nat → Int32} {K : Nat} (hj0 : JR kind puts who number stage K) (G : Nat → Nat → Bool) {q k : Nat} (hq : q < 10) (hk : k < 1728) (hb : ¬ kind q = 1) : ∀ j, j ≤ K → rpl puts who number G j q k = G q k
  | 0, _ => rfl
  | j + 1, hj => by
    obtain ⟨p, n, b, hp, hn, hkp, e1, e2, e3, e4⟩ := hj0 j (by omega)
    rw [rpl_at e1 e2 e3 hp hn hq hk, if_neg (show ¬ (q = p ∧ k = n) from fun z => hb (by rw [z.1]; exact hkp)), rpl_stays hj0 G hq hk hb j (by omega)]
theorem st_div {m : Nat} {b : Bool} (hm : m < 17280) : nI (2 * m + (if b then 1 else 0)) / (2 : Int32) = nI m := by
  have : nI (2 * m + (if b then 1 else 0)) / nI 2 = nI ((2 * m + (if b then 1 else 0)) / 2) := pk_div (by split <;> omega) (by decide) (by decide)
  rw [show (2 * m + (if b then 1 else 0)) / 2 = m by split <;> omega] at this
  exact this
theorem st_rem {m : Nat} {b : Bool} (hm : m < 17280) : nI (2 * m + (if b then 1 else 0)) - nI (2 * m + (if b then 1 else 0)) / (2 : Int32) * (2 : Int32) = bI b := by
  have : nI (2 * m + (if b then 1 else 0)) - nI (2 * m + (if b then 1 else 0)) / nI 2 * nI 2 = nI ((2 * m + (if b then 1 else 0)) % 2) := pk_rem (by split <;> omega) (by decide) (by decide)
  rw [show (2 * m + (if b then 1 else 0)) % 2 = (if b then 1 else 0) by split <;> omega] at this
  cases b <;> exact this
/-- truths behind one put or remove -/
theorem RG_step {holds : Nat → Int32} {G : Nat → Nat → Bool} {G' : Nat → Nat → Bool} {p n : Nat} {b : Bool} (hp : p < 10) (hn : n < 1728) (h : ∀ q k, q < 10 → k < 1728 → holds (1728 * q + k) = bI (G q k)) (hG : ∀ q k, q < 10 → k < 1728 → G' q k = if q = p ∧ k = n then b else G q k) : ∀ q k, q < 10 → k < 1728 → upd holds (1728 * p + n) (bI b) (1728 * q + k) = bI (G' q k) := by
  intro q k hq hk
  rw [hG q k hq hk, upd_fn]
  by_cases c : q = p ∧ k = n
  · rw [if_pos c, if_pos (by rw [c.1, c.2])]
  · rw [if_neg c, if_neg (fun z => c (by omega)), h q k hq hk]
theorem S_crash54 {F : Nat} {kind puts who number logs : Nat → Int32} {K : Nat} (hj0 : JR kind puts who number logs K) (hK : K ≤ 96) (G : Nat → Nat → Bool) : ∀ (d j f : Nat) (holds : Nat → Int32), j + d = K → d < f → (∀ q k, q < 10 → k < 1728 → holds (1728 * q + k) = bI (rpl puts who number G j q k)) →
    ∃ holds', M_Model_crash_L54 F (nI K) logs f (nI j) holds = some holds' ∧ ∀ q k, q < 10 → k < 1728 → holds' (1728 * q + k) = bI (rpl puts who number G K q k)
  | 0, j, f, holds, hj, hf, hG => by
    obtain ⟨f, rfl⟩ : ∃ m, f = m + 1 := ⟨f - 1, by omega⟩
    have : j = K := by omega
    subst this
    unfold M_Model_crash_L54
    rw [if_pos (nI_le (Nat.le_refl j) (by omega))]
    exact ⟨holds, rfl, hG⟩
  | d + 1, j, f, holds, hj, hf, hG => by
    obtain ⟨f, rfl⟩ : ∃ m, f = m + 1 := ⟨f - 1, by omega⟩
    obtain ⟨p, n, b, hp, hn, hk, e1, e2, e3, e4⟩ := hj0 j (by omega)
    have hj96 : j < 96 := by omega
    have hm : 1728 * p + n < 17280 := by omega
    have n0 : vp_nar .boolean (0 : Int32) = 0 := by decide +kernel
    have n1 : vp_nar .boolean (1 : Int32) = 1 := by decide +kernel
    unfold M_Model_crash_L54
    rw [if_neg (nI_ge (a := j) (b := K) (by omega) (by omega)), gd_n _ hj96 (by decide), gd_n _ hj96 (by decide), nI_clamp (show j < 2 ^ 31 by omega), e4, st_rem hm, st_div hm, lt_e, nI_clamp (show 1728 * p + n < 2 ^ 31 by omega)]
    cases b with
    | false =>
      rw [if_neg (show ¬ bI false = (1 : Int32) by decide +kernel), gd_n _ hm (by decide), lt_e, lt_e, nI_1, n0]
      exact S_crash54 hj0 hK G d (j + 1) f _ (by omega) (by omega) (RG_step (b := false) hp hn hG (fun q k hq hk2 => rpl_at e1 e2 e3 hp hn hq hk2))
    | true =>
      rw [if_pos (show bI true = (1 : Int32) by decide +kernel), gd_n _ hm (by decide), lt_e, lt_e, nI_1, n1]
      exact S_crash54 hj0 hK G d (j + 1) f _ (by omega) (by omega) (RG_step (b := true) hp hn hG (fun q k hq hk2 => rpl_at e1 e2 e3 hp hn hq hk2))
