/-! the log grows by what was staged; rows of truths are copied -/
def cat_ (f g : Nat → Int32) (lg : Nat) (j K : Nat) : Nat → Int32 := fun i => if lg + j ≤ i ∧ i < lg + K then g (i - lg) else f i
theorem cat_end (f g : Nat → Int32) (lg K : Nat) : cat_ f g lg K K = f := by
  funext i
  unfold cat_
  rw [if_neg (by omega)]
theorem cat_step {f g : Nat → Int32} {lg j K : Nat} (hj : j < K) : cat_ (upd f (lg + j) (g j)) g lg (j + 1) K = cat_ f g lg j K := by
  funext i
  unfold cat_
  rw [upd_fn]
  by_cases h : i = lg + j
  · rw [if_neg (by omega), if_pos h, if_pos (by omega), show i - lg = j by omega]
  · by_cases c : lg + (j + 1) ≤ i ∧ i < lg + K
    · rw [if_pos c, if_pos (by omega)]
    · rw [if_neg c, if_neg h, if_neg (by omega)]
theorem JR.cat {kind p1 w1 n1 s1 p2 w2 n2 s2 : Nat → Int32} {lg K : Nat} (h1 : JR kind p1 w1 n1 s1 lg) (h2 : JR kind p2 w2 n2 s2 K) : JR kind (cat_ p1 p2 lg 0 K) (cat_ w1 w2 lg 0 K) (cat_ n1 n2 lg 0 K) (cat_ s1 s2 lg 0 K) (lg + K) := by
  intro i hi
  unfold cat_
  by_cases c : i < lg
  · obtain ⟨p, n, b, a1, a2, a3, a4, a5, a6, a7⟩ := h1 i c
    have : ¬ (lg + 0 ≤ i ∧ i < lg + K) := by omega
    exact ⟨p, n, b, a1, a2, a3, by rw [if_neg this]; exact a4, by rw [if_neg this]; exact a5, by rw [if_neg this]; exact a6, by rw [if_neg this]; exact a7⟩
  · obtain ⟨p, n, b, a1, a2, a3, a4, a5, a6, a7⟩ := h2 (i - lg) (by omega)
    have : lg + 0 ≤ i ∧ i < lg + K := by omega
    exact ⟨p, n, b, a1, a2, a3, by rw [if_pos this]; exact a4, by rw [if_pos this]; exact a5, by rw [if_pos this]; exact a6, by rw [if_pos this]; exact a7⟩
theorem S_append_L {F N M : Nat} {kind op ow on_ stage : Nat → Int32} {lg K : Nat} (hj0 : JR kind op ow on_ stage K) (hK : K ≤ M) (hM : M < 2 ^ 31) (hN : N < 2 ^ 31) (hlg : lg + K ≤ N) : ∀ (d j f : Nat) (tp tw tn : Nat → Int32), j + d = K → d < f →
    M_Journal_append_L2 F N M op ow on_ (nI K) f (nI j) tp tw tn (nI (lg + j)) = some (cat_ tp op lg j K, cat_ tw ow lg j K, cat_ tn on_ lg j K, nI (lg + K))
  | 0, j, f, tp, tw, tn, hj, hf => by
    obtain ⟨f, rfl⟩ : ∃ m, f = m + 1 := ⟨f - 1, by omega⟩
    have : j = K := by omega
    subst this
    unfold M_Journal_append_L2
    rw [if_pos (nI_le (Nat.le_refl j) (by omega)), cat_end, cat_end, cat_end]
  | d + 1, j, f, tp, tw, tn, hj, hf => by
    obtain ⟨f, rfl⟩ : ∃ m, f = m + 1 := ⟨f - 1, by omega⟩
    obtain ⟨p, n, b, hp, hn, hk, e1, e2, e3, e4⟩ := hj0 j (by omega)
    have hjM : j < M := by omega
    unfold M_Journal_append_L2
    rw [if_neg (nI_ge (a := j) (b := K) (by omega) (by omega)), gd_n _ hjM hM, gd_n _ hjM hM, gd_n _ hjM hM, nI_clamp (show j < 2 ^ 31 by omega), e3, bd_e _ (S_jadd (show lg + j < N by omega) hN b _ _), lt_e, nI_1, show lg + j + 1 = lg + (j + 1) by omega, ← e3]
    have ih := S_append_L (F := F) hj0 hK hM hN hlg d (j + 1) f (upd tp (lg + j) (op j)) (upd tw (lg + j) (ow j)) (upd tn (lg + j) (on_ j)) (by omega) (by omega)
    rw [cat_step (by omega), cat_step (by omega), cat_step (by omega)] at ih
    exact ih
theorem S_append {F N M : Nat} {kind op ow on_ stage tp tw tn : Nat → Int32} {lg K : Nat} (hj0 : JR kind op ow on_ stage K) (hK : K ≤ M) (hM : M < 2 ^ 31) (hN : N < 2 ^ 31) (hlg : lg + K ≤ N) (hF : K < F) : M_Journal_append F N M tp tw tn (nI lg) op ow on_ (nI K) = some (cat_ tp op lg 0 K, cat_ tw ow lg 0 K, cat_ tn on_ lg 0 K, nI (lg + K)) := by
  unfold M_Journal_append
  exact bd_e (fun z3 => some (z3.1, z3.2.1, z3.2.2.1, z3.2.2.2)) (S_append_L (F := F) hj0 hK hM hN hlg K 0 F tp tw tn (by omega) hF)
theorem S_commit61 {F : Nat} {kind puts who number stage : Nat → Int32} {K lg : Nat} (hj0 : JR kind puts who number stage K) (hK : K ≤ 64) (hlg : lg + K ≤ 96) (G : Nat → Nat → Bool) : ∀ (d j f : Nat) (holds logs : Nat → Int32), j + d = K → d < f → (∀ q k, q < 10 → k < 1728 → holds (1728 * q + k) = bI (rpl puts who number G j q k)) →
    ∃ holds', M_Model_commit_L61 F (nI K) stage f (nI j) holds (nI (lg + j)) logs = some (holds', nI (lg + K), cat_ logs stage lg j K) ∧ ∀ q k, q < 10 → k < 1728 → holds' (1728 * q + k) = bI (rpl puts who number G K q k)
  | 0, j, f, holds, logs, hj, hf, hG => by
    obtain ⟨f, rfl⟩ : ∃ m, f = m + 1 := ⟨f - 1, by omega⟩
    have : j = K := by omega
    subst this
    unfold M_Model_commit_L61
    rw [if_pos (nI_le (Nat.le_refl j) (by omega)), cat_end]
    exact ⟨holds, rfl, hG⟩
  | d + 1, j, f, holds, logs, hj, hf, hG => by
    obtain ⟨f, rfl⟩ : ∃ m, f = m + 1 := ⟨f - 1, by omega⟩
    obtain ⟨p, n, b, hp, hn, hk, e1, e2, e3, e4⟩ := hj0 j (by omega)
    have hj64 : j < 64 := by omega
    have hm : 1728 * p + n < 17280 := by omega
    have hl96 : lg + j < 96 := by omega
    have n0 : vp_nar .boolean (0 : Int32) = 0 := by decide +kernel
    have n1 : vp_nar .boolean (1 : Int32) = 1 := by decide +kernel
    unfold M_Model_commit_L61
    rw [if_neg (nI_ge (a := j) (b := K) (by omega) (by omega)), gd_n _ hj64 (by decide), gd_n _ hj64 (by decide), nI_clamp (show j < 2 ^ 31 by omega)]
    have cs := cat_step (f := logs) (g := stage) (lg := lg) (show j < K by omega)
    have eq : lg + j + 1 = lg + (j + 1) := by omega
    cases b with
    | false =>
      obtain ⟨holds', g1, g2⟩ := S_commit61 (F := F) hj0 hK hlg G d (j + 1) f (upd holds (1728 * p + n) (bI false)) (upd logs (lg + j) (stage j)) (by omega) (by omega) (RG_step (b := false) hp hn hG (fun q k hq hk2 => rpl_at e1 e2 e3 hp hn hq hk2))
      refine ⟨holds', ?_, g2⟩
      rw [cs] at g1
      rw [e4, st_rem hm, st_div hm, lt_e, nI_clamp (show 1728 * p + n < 2 ^ 31 by omega), if_neg (show ¬ bI false = (1 : Int32) by decide +kernel), gd_n _ hm (by decide), lt_e, gd_n _ hj64 (by decide), gd_n _ hl96 (by decide), lt_e, lt_e, lt_e, nI_1, nI_1, n0, nI_clamp (show lg + j < 2 ^ 31 by omega), eq, ← e4]
      exact g1
    | true =>
      obtain ⟨holds', g1, g2⟩ := S_commit61 (F := F) hj0 hK hlg G d (j + 1) f (upd holds (1728 * p + n) (bI true)) (upd logs (lg + j) (stage j)) (by omega) (by omega) (RG_step (b := true) hp hn hG (fun q k hq hk2 => rpl_at e1 e2 e3 hp hn hq hk2))
      refine ⟨holds', ?_, g2⟩
      rw [cs] at g1
      rw [e4, st_rem hm, st_div hm, lt_e, nI_clamp (show 1728 * p + n < 2 ^ 31 by omega), if_pos (show bI true = (1 : Int32) by decide +kernel), gd_n _ hm (by decide), lt_e, gd_n _ hj64 (by decide), gd_n _ hl96 (by decide), lt_e, lt_e, lt_e, nI_1, nI_1, n1, nI_clamp (show lg + j < 2 ^ 31 by omega), eq, ← e4]
      exact g1
theorem S_commit34 {F : Nat} {holds : Nat → Int32} (h01 : ∀ i, i < 17280 → ∃ b, holds i = bI b) : ∀ (d j f : Nat) (held : Nat → Int32), j + d = 17280 → d < f → ∃ held', M_Model_commit_L34 F holds f (nI j) held = some held' ∧ ∀ i, i < 17280 → held' i = if j ≤ i then holds i else held i
  | 0, j, f, held, hj, hf => by
    obtain ⟨f, rfl⟩ : ∃ m, f = m + 1 := ⟨f - 1, by omega⟩
    have : j = 17280 := by omega
    subst this
    unfold M_Model_commit_L34
    rw [if_pos (by decide +kernel)]
    exact ⟨held, rfl, fun i hi => by rw [if_neg (by omega)]⟩
  | d + 1, j, f, held, hj, hf => by
    obtain ⟨f, rfl⟩ : ∃ m, f = m + 1 := ⟨f - 1, by omega⟩
    have hj2 : j < 17280 := by omega
    obtain ⟨b, eb⟩ := h01 j hj2
    unfold M_Model_commit_L34
    rw [if_neg (show ¬ (17280 : Int32) ≤ nI j from nI_ge (a := j) (b := 17280) hj2 (by decide)), gd_n _ hj2 (by decide), gd_n _ hj2 (by decide), lt_e, lt_e, nI_1, nI_clamp (show j < 2 ^ 31 by omega), eb, nar_b]
    obtain ⟨held', e, g⟩ := S_commit34 (F := F) h01 d (j + 1) f (upd held j (bI b)) (by omega) (by omega)
    refine ⟨held', e, fun i hi => ?_⟩
    rw [g i hi, upd_fn]
    by_cases c : i = j
    · subst c
      rw [if_neg (by omega), if_pos rfl, if_pos (Nat.le_refl i), eb]
    · rw [if_neg c]
      by_cases c2 : j ≤ i
      · rw [if_pos c2, if_pos (by omega)]
      · rw [if_neg c2, if_neg (by omega)]
theorem S_crash7 {F : Nat} {kept : Nat → Int32} (k01 : ∀ i, i < 17280 → ∃ b, kept i = bI b) : ∀ (d j f : Nat) (holds held : Nat → Int32), j + d = 17280 → d < f → (∀ i, j ≤ i → i < 17280 → ∃ b, holds i = bI b) → ∃ holds' held', M_Model_crash_L7 F kept f (nI j) holds held = some (holds', held') ∧ ∀ i, i < 17280 → holds' i = (if j ≤ i then kept i else holds i) ∧ held' i = (if j ≤ i then holds i else held i)
  | 0, j, f, holds, held, hj, hf, h01 => by
    obtain ⟨f, rfl⟩ : ∃ m, f = m + 1 := ⟨f - 1, by omega⟩
    have : j = 17280 := by omega
    subst this
    unfold M_Model_crash_L7
    rw [if_pos (by decide +kernel)]
    exact ⟨holds, held, rfl, fun i hi => ⟨by rw [if_neg (by omega)], by rw [if_neg (by omega)]⟩⟩
  | d + 1, j, f, holds, held, hj, hf, h01 => by
    obtain ⟨f, rfl⟩ : ∃ m, f = m + 1 := ⟨f - 1, by omega⟩
    have hj2 : j < 17280 := by omega
    obtain ⟨b, eb⟩ := h01 j (Nat.le_refl j) hj2
    obtain ⟨b2, eb2⟩ := k01 j hj2
    unfold M_Model_crash_L7
    rw [if_neg (show ¬ (17280 : Int32) ≤ nI j from nI_ge (a := j) (b := 17280) hj2 (by decide)), gd_n _ hj2 (by decide), gd_n _ hj2 (by decide), lt_e, gd_n _ hj2 (by decide), gd_n _ hj2 (by decide), lt_e, lt_e, nI_1, nI_clamp (show j < 2 ^ 31 by omega), eb, eb2, nar_b, nar_b]
    obtain ⟨holds', held', e, g⟩ := S_crash7 (F := F) k01 d (j + 1) f (upd holds j (bI b2)) (upd held j (bI b)) (by omega) (by omega) (fun i h1 h2 => by rw [pk_un (by omega)]; exact h01 i (by omega) h2)
    refine ⟨holds', held', e, fun i hi => ?_⟩
    obtain ⟨g1, g2⟩ := g i hi
    rw [g1, g2, upd_fn, upd_fn]
    by_cases c : i = j
    · subst c
      rw [if_neg (by omega), if_pos rfl, if_pos (Nat.le_refl i), if_neg (by omega), if_pos rfl, if_pos (Nat.le_refl i), eb, eb2]
      exact ⟨rfl, rfl⟩
    · rw [if_neg c, if_neg c]
      by_cases c2 : j ≤ i
      · rw [if_pos c2, if_pos c2, if_pos (by omega), if_pos (by omega)]
        exact ⟨rfl, rfl⟩
      · rw [if_neg c2, if_neg c2, if_neg (by omega), if_neg (by omega)]
        exact ⟨rfl, rfl⟩
