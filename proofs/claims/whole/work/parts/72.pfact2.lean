/-! well-formed sets: twelve bits a row, the counts right -/
def r12 (row : Nat → Int32) : Prop := ∀ i, i < 1440 → ∀ b, 12 ≤ b → bt (row i) b = false
def fc (row : Nat → Int32) (p : Nat) : Nat := ct (fh row p) 1728
def FSok (row count : Nat → Int32) : Prop := r12 row ∧ ∀ p, p < 10 → count p = nI (fc row p)
theorem fc_le (row : Nat → Int32) (p : Nat) : fc row p ≤ 1728 := ct_le _ _
theorem fh_at (row : Nat → Int32) (p a b : Nat) (hb : b < 12) : fh row p (12 * a + b) = bt (row (144 * p + a)) b := by
  unfold fh
  rw [show (12 * a + b) / 12 = a by omega, show (12 * a + b) % 12 = b by omega]
theorem fc_row (row : Nat → Int32) (p a : Nat) : ct (fh row p) (12 * (a + 1)) = ct (fh row p) (12 * a) + ct (bt (row (144 * p + a))) 12 := by
  rw [show 12 * (a + 1) = 12 * a + 12 by omega, ct_add]
  congr 1
  exact ct_congr (fun b hb => fh_at row p a b hb)
theorem ct_mono (f : Nat → Bool) {a b : Nat} (h : a ≤ b) : ct f a ≤ ct f b := by
  rw [show b = a + (b - a) by omega, ct_add]; omega
theorem ct_false : ∀ N, ct (fun _ => false) N = 0
  | 0 => rfl
  | n + 1 => by
    show ct (fun _ => false) n + 0 = 0
    rw [ct_false n]
theorem upd_fn (f : Nat → Int32) (k : Nat) (x : Int32) (j : Nat) : upd f k x j = if j = k then x else f j := by
  by_cases h : j = k
  · subst h; rw [pk_us, if_pos rfl]
  · rw [pk_un h, if_neg h]
theorem add_ok {row count : Nat → Int32} {p n : Nat} (hp : p < 10) (hn : n < 1728) (h : FSok row count) (hf : fh row p n = false) : FSok (upd row (144 * p + n / 12) (row (144 * p + n / 12) ||| ((1 : Int32) <<< (nI (n % 12) &&& 31)))) (upd count p (count p + 1)) := by
  refine ⟨fun i hi b hb => ?_, fun q hq => ?_⟩
  · rw [upd_fn]
    split
    · rename_i e
      rw [b_or, h.1 _ (by omega) b hb, Bool.false_or]
      by_cases h32 : b < 32
      · rw [bt_one _ (by omega) b h32]; exact decide_eq_false (by omega)
      · exact b_big (by omega)
    · exact h.1 i hi b hb
  · rw [upd_fn]
    by_cases e : q = p
    · subst e
      rw [if_pos rfl, h.2 q hq, nI_1]
      refine congrArg nI ?_
      unfold fc
      refine (ct_one (k := n) hf (by rw [fh_add hn hn]; simp) (fun k hk => ?_) hn).symm
      by_cases hk2 : k < 1728
      · rw [fh_add hn hk2]; simp [hk]
      · unfold fh
        rw [pk_un (by omega)]
    · rw [if_neg e, h.2 q hq]
      refine congrArg nI ?_
      exact ct_congr (fun k hk => by rw [fh_add hn hk]; simp [e])
theorem drop_ok {row count : Nat → Int32} {p n : Nat} (hp : p < 10) (hn : n < 1728) (h : FSok row count) (hf : fh row p n = true) : FSok (upd row (144 * p + n / 12) (row (144 * p + n / 12) &&& (((1 : Int32) <<< (nI (n % 12) &&& 31)) ^^^ (-1 : Int32)))) (upd count p (count p - 1)) := by
  refine ⟨fun i hi b hb => ?_, fun q hq => ?_⟩
  · rw [upd_fn]
    split
    · rw [b_and, h.1 _ (by omega) b hb, Bool.false_and]
    · exact h.1 i hi b hb
  · rw [upd_fn]
    by_cases e : q = p
    · subst e
      rw [if_pos rfl, h.2 q hq]
      have h1 : fc row q = fc (upd row (144 * q + n / 12) (row (144 * q + n / 12) &&& (((1 : Int32) <<< (nI (n % 12) &&& 31)) ^^^ (-1 : Int32)))) q + 1 := by
        unfold fc
        refine ct_one (k := n) (by rw [fh_drop hn hn]; simp) hf (fun k hk => ?_) hn
        by_cases hk2 : k < 1728
        · rw [fh_drop hn hk2]; simp [hk]
        · unfold fh
          rw [pk_un (by omega)]
      rw [h1, nI_pred]
    · rw [if_neg e, h.2 q hq]
      refine congrArg nI ?_
      exact ct_congr (fun k hk => by rw [fh_drop hn hk]; simp [e])
/-- behind an add, a drop: the facts, and well-formed -/
theorem S_addX {row count : Nat → Int32} {p n : Nat} (hp : p < 10) (hn : n < 1728) (h : FSok row count) : ∃ row' count', M_FactSet_add row count (nI p) (nI n) = some (row', count') ∧ FSok row' count' ∧ ∀ q k, k < 1728 → fh row' q k = (fh row q k || decide (q = p ∧ k = n)) := by
  rw [S_add hp hn]
  cases hf : fh row p n with
  | true =>
    refine ⟨row, count, rfl, h, fun q k hk => ?_⟩
    by_cases e : q = p ∧ k = n
    · rw [e.1, e.2, hf]; rfl
    · simp [e]
  | false => exact ⟨_, _, rfl, add_ok hp hn h hf, fun q k hk => fh_add hn hk⟩
theorem S_dropX {row count : Nat → Int32} {p n : Nat} (hp : p < 10) (hn : n < 1728) (h : FSok row count) : ∃ row' count', M_FactSet_drop row count (nI p) (nI n) = some (row', count') ∧ FSok row' count' ∧ ∀ q k, k < 1728 → fh row' q k = (fh row q k && !decide (q = p ∧ k = n)) := by
  rw [S_drop hp hn]
  cases hf : fh row p n with
  | false =>
    refine ⟨row, count, rfl, h, fun q k hk => ?_⟩
    by_cases e : q = p ∧ k = n
    · rw [e.1, e.2, hf]; rfl
    · simp [e]
  | true => exact ⟨_, _, rfl, drop_ok hp hn h hf, fun q k hk => fh_drop hn hk⟩
theorem S_size {count : Nat → Int32} {p : Nat} (hp : p < 10) : M_FactSet_size count (nI p) = some (count p) := by
  unfold M_FactSet_size
  rw [gd_n _ hp (by decide), nI_clamp (by omega)]
/-- the sum of the first N -/
def sm (f : Nat → Nat) : Nat → Nat
  | 0 => 0
  | n + 1 => sm f n + f n
theorem S_total_L {F : Nat} {row count : Nat → Int32} (h : FSok row count) : ∀ (d j n : Nat), j + d = 10 → d < n → M_FactSet_total_L4 F count n (nI j) (nI (sm (fc row) j)) = some (nI (sm (fc row) 10))
  | 0, j, n, hj, hn => by
    obtain ⟨n, rfl⟩ : ∃ m, n = m + 1 := ⟨n - 1, by omega⟩
    have : j = 10 := by omega
    subst this
    unfold M_FactSet_total_L4
    rw [if_pos (by decide +kernel)]
  | d + 1, j, n, hj, hn => by
    obtain ⟨n, rfl⟩ : ∃ m, n = m + 1 := ⟨n - 1, by omega⟩
    unfold M_FactSet_total_L4
    rw [if_neg (show ¬ (10 : Int32) ≤ nI j from nI_ge (a := j) (b := 10) (by omega) (by decide)), gd_n _ (show j < 10 by omega) (by decide), lt_e, lt_e, nI_clamp (show j < 2 ^ 31 by omega), h.2 j (by omega), nI_add, nI_1]
    exact S_total_L h d (j + 1) n (by omega) (by omega)
theorem S_total {F : Nat} {row count : Nat → Int32} (h : FSok row count) (hF : 10 < F) : M_FactSet_total F count = some (nI (sm (fc row) 10)) := by
  unfold M_FactSet_total
  exact bd_e (fun z3 => some z3) (S_total_L (F := F) h 10 0 F rfl hF)
/-- the rows of p emptied, from row j on -/
theorem S_empty_L {F : Nat} {count : Nat → Int32} {p : Nat} (hp : p < 10) (hc : ¬ count p ≤ 0) : ∀ (d j n : Nat) (row : Nat → Int32), j + d = 144 → d < n → M_FactSet_empty_L6 F count (nI p) n (nI (144 * p + j)) row = some (fun i => if 144 * p + j ≤ i ∧ i < 144 * p + 144 then 0 else row i)
  | 0, j, n, row, hj, hn => by
    obtain ⟨n, rfl⟩ : ∃ m, n = m + 1 := ⟨n - 1, by omega⟩
    unfold M_FactSet_empty_L6
    rw [gd_n _ hp (by decide), nI_clamp (by omega), if_neg hc, nI_1, f_mul, if_pos (nI_le (by omega) (by omega))]
    congr 1
    funext i
    rw [if_neg (by omega)]
  | d + 1, j, n, row, hj, hn => by
    obtain ⟨n, rfl⟩ : ∃ m, n = m + 1 := ⟨n - 1, by omega⟩
    unfold M_FactSet_empty_L6
    rw [gd_n _ hp (by decide), nI_clamp (by omega), if_neg hc, nI_1, f_mul, if_neg (nI_ge (by omega) (by omega)), gd_n _ (by omega) (by decide), lt_e, lt_e, nI_1, nI_clamp (by omega), show 144 * p + j + 1 = 144 * p + (j + 1) by omega, S_empty_L hp hc d (j + 1) n _ (by omega) (by omega)]
    congr 1
    funext i
    rw [upd_fn]
    by_cases h1 : i = 144 * p + j
    · rw [if_pos h1, if_neg (show ¬ (144 * p + (j + 1) ≤ i ∧ i < 144 * p + 144) by omega), if_pos (show 144 * p + j ≤ i ∧ i < 144 * p + 144 by omega)]
    · rw [if_neg h1]
      by_cases h2 : 144 * p + (j + 1) ≤ i ∧ i < 144 * p + 144
      · rw [if_pos h2, if_pos (show 144 * p + j ≤ i ∧ i < 144 * p + 144 by omega)]
      · rw [if_neg h2, if_neg (show ¬ (144 * p + j ≤ i ∧ i < 144 * p + 144) by omega)]
theorem fh_z {row row' : Nat → Int32} {p : Nat} (hr : ∀ i, row' i = if 144 * p ≤ i ∧ i < 144 * p + 144 then 0 else row i) {q k : Nat} (hk : k < 1728) : fh row' q k = (fh row q k && !decide (q = p)) := by
  unfold fh
  rw [hr]
  by_cases e : q = p
  · subst e
    rw [if_pos (by omega), b_0]; simp
  · rw [if_neg (by omega)]; simp [e]
theorem S_empty {F : Nat} {row count : Nat → Int32} {p : Nat} (hp : p < 10) (h : FSok row count) (hF : 144 < F) : ∃ row', M_FactSet_empty F row count (nI p) = some (row', upd count p 0) ∧ FSok row' (upd count p 0) ∧ ∀ q k, k < 1728 → fh row' q k = (fh row q k && !decide (q = p)) := by
  have key : ∃ row', M_FactSet_empty_L6 F count (nI p) F (nI (144 * p + 0)) row = some row' ∧ r12 row' ∧ ∀ q k, k < 1728 → fh row' q k = (fh row q k && !decide (q = p)) := by
    by_cases hc : count p ≤ 0
    · refine ⟨row, ?_, h.1, fun q k hk => ?_⟩
      · obtain ⟨n, rfl⟩ : ∃ m, F = m + 1 := ⟨F - 1, by omega⟩
        unfold M_FactSet_empty_L6
        rw [gd_n _ hp (by decide), nI_clamp (by omega), if_pos hc]
      · by_cases e : q = p
        · subst e
          have h0 : fc row q = 0 := by
            rcases Nat.eq_zero_or_pos (fc row q) with z | z
            · exact z
            · rw [h.2 q hp] at hc
              exact absurd hc (nI_nle z (by have := fc_le row q; omega))
          rw [ct_0 h0 k hk]; rfl
        · simp [e]
    · refine ⟨_, S_empty_L hp hc 144 0 F row rfl hF, fun i hi b hb => ?_, fun q k hk => fh_z (fun i => rfl) hk⟩
      dsimp only
      split
      · exact b_0 b
      · exact h.1 i hi b hb
  obtain ⟨row', e1, h1, h2⟩ := key
  refine ⟨row', ?_, ⟨h1, fun q hq => ?_⟩, h2⟩
  · unfold M_FactSet_empty
    rw [lt_e, f_mul, show p * 144 = 144 * p + 0 by omega, bd_e _ e1, gd_n _ hp (by decide), lt_e, nI_clamp (by omega)]
  · rw [upd_fn]
    by_cases e : q = p
    · subst e
      rw [if_pos rfl]
      have : fc row' q = 0 := by
        unfold fc
        rw [ct_congr (g := fun _ => false) (fun k hk => by rw [h2 q k hk]; simp)]
        exact ct_false 1728
      rw [this]; rfl
    · rw [if_neg e, h.2 q hq]
      refine congrArg nI ?_
      exact ct_congr (fun k hk => by rw [h2 q k hk]; simp [e])
