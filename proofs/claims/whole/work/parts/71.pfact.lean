/-! the pure part: sets of facts. bt x i: bit i of x -/
def bI (b : Bool) : Int32 := if b then 1 else 0
/-- fact n of predicate p is in the rows -/
def fh (row : Nat → Int32) (p n : Nat) : Bool := bt (row (144 * p + n / 12)) (n % 12)
theorem lt_e {α β : Type} (x : α) (k : α → β) : lt_ x k = k x := rfl
theorem gd_e {α : Type} {i : Int32} {n : Nat} (x : Option α) (h : vp_in i n) : gd_ i n x = x := if_neg h
theorem gd_n {α : Type} {i n : Nat} (x : Option α) (h : i < n) (hn : n < 2 ^ 31) : gd_ (nI i) n x = x := gd_e x (vp_in_nI h hn)
theorem bd_e {α β : Type} {x : Option α} {v : α} (k : α → Option β) (h : x = some v) : bd_ x k = k v := by rw [h]; rfl
theorem gz_b {α : Type} (b : Bool) (x : Option α) : gz_ (bI b) x = x := by cases b <;> rfl
theorem bI_0 (b : Bool) : (bI b = 0) = (b = false) := by cases b <;> simp [bI]
theorem nI_lit (n : Nat) (k : Int32) (h : nI n = k) : k = nI n := h.symm
theorem f_rem {n : Nat} (h : n < 2 ^ 31) : nI n - nI n / (12 : Int32) * (12 : Int32) = nI (n % 12) := pk_rem (d := 12) h (by decide) (by decide)
theorem f_div {n : Nat} (h : n < 2 ^ 31) : nI n / (12 : Int32) = nI (n / 12) := pk_div (d := 12) h (by decide) (by decide)
theorem f_mul (p : Nat) : nI p * (144 : Int32) = nI (p * 144) := pk_mul p 144
theorem f_ix {p n : Nat} (hn : n < 1728) : nI p * (144 : Int32) + nI n / (12 : Int32) = nI (144 * p + n / 12) := by
  rw [f_mul, f_div (by omega), nI_add, Nat.mul_comm]
theorem f_ixlt {p n : Nat} (hp : p < 10) (hn : n < 1728) : 144 * p + n / 12 < 1440 := by omega
/-- one bit is asked for -/
theorem bt_ask (x : Int32) {i : Nat} (hi : i < 32) : ((x >>> (nI i &&& 31)) &&& (1 : Int32)) = 0 ↔ bt x i = false := by
  constructor
  · intro h
    have h1 : bt ((x >>> (nI i &&& 31)) &&& (1 : Int32)) 0 = false := by rw [h]; exact b_0 0
    rw [b_and, b_sshr i hi x (by decide), if_pos (by omega)] at h1
    have h2 : bt (1 : Int32) 0 = true := by decide +kernel
    rw [h2] at h1
    simpa using h1
  · intro h
    refine b_ext (fun j hj => ?_)
    rw [b_and, b_0]
    by_cases h0 : j = 0
    · subst h0
      rw [b_sshr i hi x (by decide), if_pos (by omega)]
      simp [h]
    · have h2 : ∀ j, j < 32 → j ≠ 0 → bt (1 : Int32) j = false := by decide +kernel
      rw [h2 j hj h0, Bool.and_false]
theorem bt_one : ∀ i, i < 32 → ∀ j, j < 32 → bt ((1 : Int32) <<< (nI i &&& 31)) j = decide (j = i) := by decide +kernel
theorem bt_oneA (x : Int32) {i : Nat} (hi : i < 32) : (x &&& ((1 : Int32) <<< (nI i &&& 31))) = 0 ↔ bt x i = false := by
  constructor
  · intro h
    have h1 : bt (x &&& ((1 : Int32) <<< (nI i &&& 31))) i = false := by rw [h]; exact b_0 i
    rw [b_and, bt_one i hi i hi] at h1
    simpa using h1
  · intro h
    refine b_ext (fun j hj => ?_)
    rw [b_and, b_0, bt_one i hi j hj]
    by_cases h0 : j = i
    · subst h0; simp [h]
    · simp [h0]
theorem S_has {row : Nat → Int32} {p n : Nat} (hp : p < 10) (hn : n < 1728) : M_FactSet_has row (nI p) (nI n) = some (bI (fh row p n)) := by
  unfold M_FactSet_has
  rw [if_neg (nI_pos (by omega)), if_neg (show ¬ (10 : Int32) ≤ nI p from nI_ge hp (by decide)), if_neg (nI_pos (by omega)), if_pos (show nI n < (1728 : Int32) from nI_lt hn (by decide)), f_ix hn, gd_n _ (f_ixlt hp hn) (by decide), lt_e, lt_e, f_rem (by omega), nI_clamp (show 144 * p + n / 12 < 2 ^ 31 by omega)]
  unfold fh
  by_cases h : bt (row (144 * p + n / 12)) (n % 12) = false
  · rw [if_pos ((bt_ask _ (by omega)).mpr h), h]; rfl
  · rw [if_neg (fun q => h ((bt_ask _ (by omega)).mp q))]
    rw [Bool.not_eq_false] at h
    rw [h]; rfl

/-- one bit more -/
theorem S_add {row count : Nat → Int32} {p n : Nat} (hp : p < 10) (hn : n < 1728) : M_FactSet_add row count (nI p) (nI n) = some (if fh row p n then (row, count) else (upd row (144 * p + n / 12) (row (144 * p + n / 12) ||| ((1 : Int32) <<< (nI (n % 12) &&& 31))), upd count p (count p + 1))) := by
  unfold M_FactSet_add
  rw [if_neg (nI_pos (by omega)), if_neg (show ¬ (10 : Int32) ≤ nI p from nI_ge hp (by decide)), if_neg (nI_pos (by omega)), if_pos (show nI n < (1728 : Int32) from nI_lt hn (by decide)), f_ix hn, lt_e, lt_e, gd_n _ (f_ixlt hp hn) (by decide), f_rem (by omega), nI_clamp (show 144 * p + n / 12 < 2 ^ 31 by omega)]
  unfold fh
  by_cases h : bt (row (144 * p + n / 12)) (n % 12) = false
  · rw [if_pos ((bt_oneA _ (by omega)).mpr h), gd_n _ (f_ixlt hp hn) (by decide), gd_n _ (f_ixlt hp hn) (by decide), lt_e, gd_n _ hp (by decide), gd_n _ hp (by decide), lt_e, nI_clamp (show p < 2 ^ 31 by omega), h]
    rfl
  · rw [if_neg (fun q => h ((bt_oneA _ (by omega)).mp q))]
    rw [Bool.not_eq_false] at h
    rw [h]; rfl
theorem bt_m1x (x : Int32) {j : Nat} (hj : j < 32) : bt (x ^^^ (-1 : Int32)) j = !(bt x j) := by rw [b_xor, b_m1 j hj, Bool.xor_true]
theorem S_drop {row count : Nat → Int32} {p n : Nat} (hp : p < 10) (hn : n < 1728) : M_FactSet_drop row count (nI p) (nI n) = some (if fh row p n then (upd row (144 * p + n / 12) (row (144 * p + n / 12) &&& (((1 : Int32) <<< (nI (n % 12) &&& 31)) ^^^ (-1 : Int32))), upd count p (count p - 1)) else (row, count)) := by
  unfold M_FactSet_drop
  rw [bd_e _ (S_has hp hn)]
  cases h : fh row p n with
  | false => rfl
  | true =>
    rw [if_neg (show ¬ bI true = 0 by decide +kernel), f_ix hn, gd_n _ (f_ixlt hp hn) (by decide), lt_e, lt_e, gd_n _ (f_ixlt hp hn) (by decide), lt_e, gd_n _ hp (by decide), gd_n _ hp (by decide), lt_e, f_rem (by omega), nI_clamp (show 144 * p + n / 12 < 2 ^ 31 by omega), nI_clamp (show p < 2 ^ 31 by omega)]
    rfl
/-- the facts behind a row that got one bit, or lost one -/
theorem fh_add {row : Nat → Int32} {p n q k : Nat} (hn : n < 1728) (hk : k < 1728) : fh (upd row (144 * p + n / 12) (row (144 * p + n / 12) ||| ((1 : Int32) <<< (nI (n % 12) &&& 31)))) q k = (fh row q k || decide (q = p ∧ k = n)) := by
  unfold fh
  by_cases h : 144 * q + k / 12 = 144 * p + n / 12
  · rw [h, pk_us, b_or, bt_one _ (by omega) _ (by omega)]
    congr 1
    have : (k % 12 = n % 12) ↔ (q = p ∧ k = n) := by omega
    exact decide_eq_decide.mpr this
  · rw [pk_un h]
    have : ¬ (q = p ∧ k = n) := fun z => h (by rw [z.1, z.2])
    simp [this]
theorem fh_drop {row : Nat → Int32} {p n q k : Nat} (hn : n < 1728) (hk : k < 1728) : fh (upd row (144 * p + n / 12) (row (144 * p + n / 12) &&& (((1 : Int32) <<< (nI (n % 12) &&& 31)) ^^^ (-1 : Int32)))) q k = (fh row q k && !decide (q = p ∧ k = n)) := by
  unfold fh
  by_cases h : 144 * q + k / 12 = 144 * p + n / 12
  · rw [h, pk_us, b_and, bt_m1x _ (by omega), bt_one _ (by omega) _ (by omega)]
    congr 2
    have : (k % 12 = n % 12) ↔ (q = p ∧ k = n) := by omega
    exact decide_eq_decide.mpr this
  · rw [pk_un h]
    have : ¬ (q = p ∧ k = n) := fun z => h (by rw [z.1, z.2])
    simp [this]
/-- how many of the first N -/
def ct (f : Nat → Bool) : Nat → Nat
  | 0 => 0
  | n + 1 => ct f n + (if f n then 1 else 0)
theorem ct_le (f : Nat → Bool) : ∀ N, ct f N ≤ N
  | 0 => Nat.le_refl 0
  | n + 1 => by
    have := ct_le f n
    show ct f n + (if f n then 1 else 0) ≤ n + 1
    split <;> omega
theorem ct_congr {f g : Nat → Bool} : ∀ {N : Nat}, (∀ n, n < N → f n = g n) → ct f N = ct g N
  | 0, _ => rfl
  | n + 1, h => by
    show ct f n + (if f n then 1 else 0) = ct g n + (if g n then 1 else 0)
    rw [ct_congr (fun m hm => h m (by omega)), h n (by omega)]
theorem ct_one {f g : Nat → Bool} {k : Nat} (hf : f k = false) (hg : g k = true) (ho : ∀ n, n ≠ k → g n = f n) : ∀ {N : Nat}, k < N → ct g N = ct f N + 1
  | 0, h => absurd h (Nat.not_lt_zero _)
  | n + 1, h => by
    show ct g n + (if g n then 1 else 0) = ct f n + (if f n then 1 else 0) + 1
    by_cases hk : k = n
    · subst hk
      rw [hf, hg, ct_congr (fun m hm => ho m (by omega))]
      rfl
    · rw [ct_one hf hg ho (show k < n by omega), ho n (fun z => hk z.symm)]
      omega
theorem ct_add (f : Nat → Bool) (a : Nat) : ∀ b, ct f (a + b) = ct f a + ct (fun n => f (a + n)) b
  | 0 => rfl
  | b + 1 => by
    show ct f (a + b) + (if f (a + b) then 1 else 0) = ct f a + (ct (fun n => f (a + n)) b + (if f (a + b) then 1 else 0))
    rw [ct_add f a b]; omega
theorem ct_pos {f : Nat → Bool} {k : Nat} (hf : f k = true) : ∀ {N : Nat}, k < N → 0 < ct f N
  | 0, h => absurd h (Nat.not_lt_zero _)
  | n + 1, h => by
    show 0 < ct f n + (if f n then 1 else 0)
    by_cases hk : k = n
    · subst hk; rw [hf]; simp
    · have := ct_pos hf (show k < n by omega); omega
theorem ct_0 {f : Nat → Bool} : ∀ {N : Nat}, ct f N = 0 → ∀ n, n < N → f n = false := fun {N} h n hn => by
  cases hf : f n with
  | false => rfl
  | true => have := ct_pos hf hn; omega
