theorem S_isSoM3 {F : Nat} {ps pp pts termOf holds value : Nat → Int32} {i k : Nat} {v : Nat → Nat} (hi : i < 96) (hk : k < 3) (es : ps i = nI (2 + k)) (hv : VM termOf value i 2 v) : M_Model_isSo F ps pp pts termOf holds value (nI i) = some (bI (cmpv k (v 0) (v 1))) := by
  have n0 : ¬ nI (2 + k) = (0 : Int32) := fun z => by have := (nI_eq (a := 2 + k) (b := 0) (by omega) (by decide)).mp z; omega
  have n1 : ¬ nI (2 + k) = (1 : Int32) := fun z => by have := (nI_eq (a := 2 + k) (b := 1) (by omega) (by decide)).mp z; omega
  have t0 : M_Model_termValue termOf value (nI i) (0 : Int32) = some (nI (v 0)) := S_termValue (t := 0) hi (by decide) (by decide) hv
  have t1 : M_Model_termValue termOf value (nI i) (1 : Int32) = some (nI (v 1)) := S_termValue (t := 1) hi (by decide) (by decide) hv
  have b0 := (hv 0 (by decide)).1
  have b1 := (hv 1 (by decide)).1
  have hq := nI_eq (a := v 0) (b := v 1) (by omega) (by omega)
  have hl := nI_leI (a := v 1) (b := v 0) (by omega) (by omega)
  unfold M_Model_isSo cmpv
  rw [gd_n _ hi (by decide), nI_clamp (show i < 2 ^ 31 by omega), es, if_neg n0, if_neg n1]
  have : k = 0 ∨ k = 1 ∨ k = 2 := by omega
  rcases this with rfl | rfl | rfl
  · rw [if_pos (show nI (2 + 0) = (2 : Int32) from rfl), bd_e _ t0, bd_e _ t1, if_pos (show (0 : Nat) = 0 from rfl)]
    by_cases c : v 0 = v 1
    · rw [if_pos (hq.mpr c)]; simp [c, bI]
    · rw [if_neg (fun z => c (hq.mp z))]; simp [c, bI]
  · rw [if_neg (show ¬ nI (2 + 1) = (2 : Int32) by decide +kernel), if_pos (show nI (2 + 1) = (3 : Int32) from rfl), bd_e _ t0, bd_e _ t1, if_neg (show ¬ (1 : Nat) = 0 by decide), if_pos (show (1 : Nat) = 1 from rfl)]
    by_cases c : v 0 = v 1
    · rw [if_pos (hq.mpr c)]; simp [c, bI]
    · rw [if_neg (fun z => c (hq.mp z))]; simp [c, bI]
  · rw [if_neg (show ¬ nI (2 + 2) = (2 : Int32) by decide +kernel), if_neg (show ¬ nI (2 + 2) = (3 : Int32) by decide +kernel), bd_e _ t0, bd_e _ t1, if_neg (show ¬ (2 : Nat) = 0 by decide), if_neg (show ¬ (2 : Nat) = 1 by decide)]
    by_cases c : v 1 ≤ v 0
    · rw [if_pos (hl.mpr c)]; simp [bI]; omega
    · rw [if_neg (fun z => c (hl.mp z))]; simp [bI]; omega
/-- one more than the last variable of the first w terms, 0 without one -/
def lvf (tm : Nat → Nat) : Nat → Nat
  | 0 => 0
  | t + 1 => if tm t < 100 then lvf tm t else if tm t - 99 ≤ lvf tm t then lvf tm t else tm t - 99
theorem yv_le {x m : Nat} (hx : x < 2 ^ 30) (hm : m < 2 ^ 30) : nI x ≤ yv m ↔ x + 1 ≤ m := by
  cases m with
  | zero =>
    constructor
    · intro h
      have h : nI x ≤ (-1 : Int32) := h
      have := nI_pos' (n := x) (by omega)
      simp only [Int32.le_iff_toInt_le] at *
      have e1 : (-1 : Int32).toInt = -1 := by decide
      have e2 : (0 : Int32).toInt = 0 := by decide
      omega
    · intro h; omega
  | succ m =>
    show nI x ≤ nI m ↔ _
    rw [nI_leI (by omega) (by omega)]
    omega
theorem lvf_le {tm : Nat → Nat} : ∀ {w : Nat}, (∀ t, t < w → tm t < 106) → lvf tm w ≤ 6
  | 0, _ => Nat.zero_le 6
  | w + 1, h => by
    have h1 := lvf_le (tm := tm) (w := w) (fun t ht => h t (by omega))
    have h2 := h w (by omega)
    show (if tm w < 100 then lvf tm w else if tm w - 99 ≤ lvf tm w then lvf tm w else tm w - 99) ≤ 6
    split
    · exact h1
    · split
      · exact h1
      · omega
theorem S_lastV_L {F : Nat} {pts termOf : Nat → Int32} {i w : Nat} {tm : Nat → Nat} (hi : i < 96) (hw : w ≤ 3) (ew : pts i = nI w) (ht : ∀ t, t < w → termOf (3 * i + t) = nI (tm t) ∧ tm t < 106) : ∀ (d j n : Nat), j + d = w → d < n → M_Model_lastVariable_L4 F pts termOf (nI i) n (nI j) (yv (lvf tm j)) = some (yv (lvf tm w))
  | 0, j, n, hj, hn => by
    obtain ⟨n, rfl⟩ : ∃ m, n = m + 1 := ⟨n - 1, by omega⟩
    have : j = w := by omega
    subst this
    unfold M_Model_lastVariable_L4
    rw [gd_n _ hi (by decide), nI_clamp (show i < 2 ^ 31 by omega), ew, if_pos (nI_le (Nat.le_refl j) (by omega))]
  | d + 1, j, n, hj, hn => by
    obtain ⟨n, rfl⟩ : ∃ m, n = m + 1 := ⟨n - 1, by omega⟩
    obtain ⟨e1, e2⟩ := ht j (by omega)
    have hl := lvf_le (tm := tm) (w := j) (fun t h => (ht t (by omega)).2)
    have hs : lvf tm (j + 1) = if tm j < 100 then lvf tm j else if tm j - 99 ≤ lvf tm j then lvf tm j else tm j - 99 := rfl
    have h3 : 3 * i + j < 288 := by omega
    have ih := S_lastV_L (F := F) hi hw ew ht d (j + 1) n (by omega) (by omega)
    unfold M_Model_lastVariable_L4
    rw [gd_n _ hi (by decide), nI_clamp (show i < 2 ^ 31 by omega), ew, if_neg (nI_ge (a := j) (b := w) (by omega) (by omega)), x3b, gd_n _ h3 (by decide), lt_e, nI_clamp (show 3 * i + j < 2 ^ 31 by omega), e1]
    by_cases c : tm j < 100
    · rw [if_pos c] at hs
      rw [if_pos (show nI (tm j) < (100 : Int32) from nI_lt (b := 100) c (by decide)), lt_e, nI_1, ← hs]
      exact ih
    · rw [if_neg c] at hs
      have e : nI (tm j) - (100 : Int32) = nI (tm j - 100) := pk_sub (b := 100) (by omega)
      rw [if_neg (show ¬ nI (tm j) < (100 : Int32) from nI_nlt (b := 100) (by omega) (by omega)), gd_n _ h3 (by decide), lt_e, e]
      have hy := yv_le (x := tm j - 100) (m := lvf tm j) (by omega) (by omega)
      by_cases c2 : tm j - 99 ≤ lvf tm j
      · rw [if_pos c2] at hs
        rw [if_pos (hy.mpr (by omega)), lt_e, nI_1, ← hs]
        exact ih
      · rw [if_neg c2] at hs
        rw [if_neg (fun z => c2 (by have := hy.mp z; omega)), gd_n _ h3 (by decide), lt_e, lt_e, lt_e, nI_1, e]
        have e9 : yv (lvf tm (j + 1)) = nI (tm j - 100) := by
          rw [hs, show tm j - 99 = (tm j - 100) + 1 by omega]
          rfl
        rw [← e9]
        exact ih
theorem S_lastV {F : Nat} {pts termOf : Nat → Int32} {i w : Nat} {tm : Nat → Nat} (hi : i < 96) (hw : w ≤ 3) (ew : pts i = nI w) (ht : ∀ t, t < w → termOf (3 * i + t) = nI (tm t) ∧ tm t < 106) (hF : 3 < F) : M_Model_lastVariable F pts termOf (nI i) = some (yv (lvf tm w)) := by
  unfold M_Model_lastVariable
  exact bd_e (fun z8 => some z8) (S_lastV_L (F := F) hi hw ew ht w 0 F (by omega) (by omega))
theorem yv_inj {a b : Nat} (ha : a < 2 ^ 30) (hb : b < 2 ^ 30) : yv a = yv b ↔ a = b := by
  cases a with
  | zero =>
    cases b with
    | zero => exact ⟨fun _ => rfl, fun _ => rfl⟩
    | succ b => exact ⟨fun h => absurd (show nI b = (-1 : Int32) from h.symm) (nI_nm1 (by omega)), fun h => by omega⟩
  | succ a =>
    cases b with
    | zero => exact ⟨fun h => absurd (show nI a = (-1 : Int32) from h) (nI_nm1 (by omega)), fun h => by omega⟩
    | succ b =>
      show nI a = nI b ↔ _
      rw [nI_eq (by omega) (by omega)]
      omega
theorem yv_m1 (v : Nat) : nI v - (1 : Int32) = yv v := by
  cases v with
  | zero => decide +kernel
  | succ v => exact nI_pred v
/-- goes(r, v): the parts whose last variable is the v-th are so -/
theorem S_goes_L {F : Nat} {pc ps pp pts termOf holds value : Nat → Int32} {r K v : Nat} {lv : Nat → Nat} {so : Nat → Bool} (hr : r < 16) (hK : K ≤ 5) (ek : pc r = nI K) (hv : v < 10) (h1 : ∀ i, 1 ≤ i → i ≤ K → lv i ≤ 6 ∧ M_Model_lastVariable F pts termOf (nI (6 * r + i)) = some (yv (lv i))) (h2 : ∀ i, 1 ≤ i → i ≤ K → lv i = v → M_Model_isSo F ps pp pts termOf holds value (nI (6 * r + i)) = some (bI (so i))) : ∀ (d j n : Nat), j + d = K + 1 → 1 ≤ j → d < n →
    ((∀ i, j ≤ i → i ≤ K → lv i = v → so i = true) → M_Model_goes_L2 F pc ps pp pts termOf holds value (nI r) (nI v) n (nI j) = some (.inl ())) ∧ ((¬ ∀ i, j ≤ i → i ≤ K → lv i = v → so i = true) → M_Model_goes_L2 F pc ps pp pts termOf holds value (nI r) (nI v) n (nI j) = some (.inr 0))
  | 0, j, n, hj, h1j, hn => by
    obtain ⟨n, rfl⟩ : ∃ m, n = m + 1 := ⟨n - 1, by omega⟩
    refine ⟨fun _ => ?_, fun h => absurd (fun i a b => absurd a (by omega)) h⟩
    unfold M_Model_goes_L2
    rw [gd_n _ hr (by decide), nI_clamp (show r < 2 ^ 31 by omega), ek, if_pos (nI_lt (by omega) (by omega))]
  | d + 1, j, n, hj, h1j, hn => by
    obtain ⟨n, rfl⟩ : ∃ m, n = m + 1 := ⟨n - 1, by omega⟩
    have ih := S_goes_L (F := F) (holds := holds) (value := value) hr hK ek hv h1 h2 d (j + 1) n (by omega) (by omega) (by omega)
    obtain ⟨l6, el⟩ := h1 j h1j (by omega)
    have e6 : (6 : Int32) * nI r + nI j = nI (6 * r + j) := by
      have : (6 : Int32) * nI r = nI (6 * r) := pk_mul 6 r
      rw [this, nI_add]
    unfold M_Model_goes_L2
    rw [gd_n _ hr (by decide), nI_clamp (show r < 2 ^ 31 by omega), ek, if_neg (nI_nlt (a := K) (b := j) (by omega) (by omega)), e6, bd_e _ el, yv_m1]
    by_cases c : lv j = v
    · rw [if_pos ((yv_inj (by omega) (by omega)).mpr c), bd_e _ (h2 j h1j (by omega) c)]
      cases hs : so j with
      | false =>
        rw [if_pos bI_f]
        exact ⟨fun h => absurd (h j (Nat.le_refl j) (by omega) c) (by rw [hs]; decide), fun _ => rfl⟩
      | true =>
        rw [if_neg bI_t, lt_e, nI_1]
        refine ⟨fun h => ih.1 (fun i a b => h i (by omega) b), fun h => ih.2 (fun h3 => h (fun i a b z => ?_))⟩
        by_cases e : i = j
        · subst e; exact hs
        · exact h3 i (by omega) b z
    · rw [if_neg (fun z => c ((yv_inj (by omega) (by omega)).mp z)), lt_e, nI_1]
      refine ⟨fun h => ih.1 (fun i a b => h i (by omega) b), fun h => ih.2 (fun h3 => h (fun i a b z => ?_))⟩
      by_cases e : i = j
      · subst e; exact absurd z c
      · exact h3 i (by omega) b z
theorem S_goes {F : Nat} {pc ps pp pts termOf holds value : Nat → Int32} {r K v : Nat} {lv : Nat → Nat} {so : Nat → Bool} (hr : r < 16) (hK : K ≤ 5) (ek : pc r = nI K) (hv : v < 10) (hF : 6 < F) (h1 : ∀ i, 1 ≤ i → i ≤ K → lv i ≤ 6 ∧ M_Model_lastVariable F pts termOf (nI (6 * r + i)) = some (yv (lv i))) (h2 : ∀ i, 1 ≤ i → i ≤ K → lv i = v → M_Model_isSo F ps pp pts termOf holds value (nI (6 * r + i)) = some (bI (so i))) :
    ((∀ i, 1 ≤ i → i ≤ K → lv i = v → so i = true) → M_Model_goes F pc ps pp pts termOf holds value (nI r) (nI v) = some 1) ∧ ((¬ ∀ i, 1 ≤ i → i ≤ K → lv i = v → so i = true) → M_Model_goes F pc ps pp pts termOf holds value (nI r) (nI v) = some 0) := by
  have h := S_goes_L (F := F) (holds := holds) (value := value) hr hK ek hv h1 h2 K 1 F (by omega) (Nat.le_refl 1) (by omega)
  unfold M_Model_goes
  exact ⟨fun a => bd_e (fun z5 => cs_ z5 (fun q6 => some (1 : Int32)) (fun o => some o)) (h.1 a), fun a => bd_e (fun z5 => cs_ z5 (fun q6 => some (1 : Int32)) (fun o => some o)) (h.2 a)⟩
