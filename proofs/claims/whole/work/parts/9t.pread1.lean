/-! reading: the two readers step by step alike -/
/-- the characters of the tape, on both sides -/
def CH (ch : Nat → Nat) (text tape : Nat → Int32) (len : Nat) : Prop := len ≤ 480 ∧ ∀ i, i < len → (32 ≤ ch i ∧ ch i ≤ 126) ∧ text i = nI (ch i) ∧ tape i = nI (ch i)
def skp (ch : Nat → Nat) (len : Nat) : Nat → Nat → Nat
  | 0, i => i
  | n + 1, i => if i < len ∧ ch i = 32 then skp ch len n (i + 1) else i
/-- the first place from i on that is no blank -/
def sk (ch : Nat → Nat) (len i : Nat) : Nat := skp ch len (len - i) i
section
variable {ch : Nat → Nat} {text tape : Nat → Int32} {len F : Nat}
theorem sk_s (i : Nat) : sk ch len i = if i < len ∧ ch i = 32 then sk ch len (i + 1) else i := by
  unfold sk
  by_cases c : i < len
  · rw [show len - i = (len - (i + 1)) + 1 by omega]
    rfl
  · rw [if_neg (fun z => c z.1), show len - i = 0 by omega]
    rfl
theorem sk_ge : ∀ (d i : Nat), len - i = d → i ≤ sk ch len i ∧ (i ≤ len → sk ch len i ≤ len) ∧ ¬ (sk ch len i < len ∧ ch (sk ch len i) = 32)
  | 0, i, h => by
    have : sk ch len i = i := by rw [sk_s, if_neg (fun z => by omega)]
    rw [this]
    exact ⟨Nat.le_refl i, fun h => h, fun z => by omega⟩
  | d + 1, i, h => by
    rw [sk_s]
    by_cases c : i < len ∧ ch i = 32
    · rw [if_pos c]
      obtain ⟨h1, h2, h3⟩ := sk_ge d (i + 1) (by omega)
      exact ⟨by omega, fun _ => h2 (by omega), h3⟩
    · rw [if_neg c]
      exact ⟨Nat.le_refl i, fun h => h, c⟩
theorem sk_le (i : Nat) : i ≤ sk ch len i := (sk_ge (ch := ch) (len := len) (len - i) i rfl).1
theorem sk_len {i : Nat} (h : i ≤ len) : sk ch len i ≤ len := (sk_ge (ch := ch) (len - i) i rfl).2.1 h
theorem sk_nb (i : Nat) : ¬ (sk ch len i < len ∧ ch (sk ch len i) = 32) := (sk_ge (ch := ch) (len := len) (len - i) i rfl).2.2
theorem sk_sk (i : Nat) : sk ch len (sk ch len i) = sk ch len i := by
  rw [sk_s (sk ch len i), if_neg (sk_nb i)]
/-- a character, -1 behind the end -/
def cc (ch : Nat → Nat) (len i : Nat) : Int32 := if i < len then nI (ch i) else -1
/-- the same for the reference: 0 behind the end -/
def cr0 (ch : Nat → Nat) (len i : Nat) : Int32 := if i < len then nI (ch i) else 0
theorem cc_eq (hc : CH ch text tape len) {i k : Nat} (hk : k < 2 ^ 31) : cc ch len i = nI k ↔ i < len ∧ ch i = k := by
  unfold cc
  by_cases c : i < len
  · rw [if_pos c, nI_eq (by have := (hc.2 i c).1.2; omega) hk]
    exact ⟨fun z => ⟨c, z⟩, fun z => z.2⟩
  · rw [if_neg c]
    exact ⟨fun z => absurd z.symm (nI_nm1 hk), fun z => absurd z.1 c⟩
theorem cr0_eq (hc : CH ch text tape len) {i k : Nat} (h0 : k ≠ 0) (hk : k < 2 ^ 31) : cr0 ch len i = nI k ↔ i < len ∧ ch i = k := by
  unfold cr0
  by_cases c : i < len
  · rw [if_pos c, nI_eq (by have := (hc.2 i c).1.2; omega) hk]
    exact ⟨fun z => ⟨c, z⟩, fun z => z.2⟩
  · rw [if_neg c]
    exact ⟨fun z => absurd ((nI_eq (a := 0) (b := k) (by decide) hk).mp z) (by omega), fun z => absurd z.1 c⟩
theorem S_at (hc : CH ch text tape len) (i : Nat) (hi : i < 2 ^ 31) : M_Tape_at text (nI len) (nI i) = some (cc ch len i) := by
  have h480 := hc.1
  unfold M_Tape_at cc
  rw [if_neg (nI_pos hi)]
  by_cases c : i < len
  · rw [if_neg (nI_ge c (by omega)), gd_n _ (show i < 480 by omega) (by decide), nI_clamp hi, if_pos c, (hc.2 i c).2.1]
  · rw [if_pos (nI_le (by omega) hi), if_neg c]
theorem S_peek_L (hc : CH ch text tape len) : ∀ (d i n : Nat), i + d = len → d < n → M_Reader_peek_L0 F text (nI len) n (nI i) = some (nI (sk ch len i))
  | 0, i, n, hi, hn => by
    obtain ⟨n, rfl⟩ : ∃ m, n = m + 1 := ⟨n - 1, by omega⟩
    have h480 := hc.1
    have es : sk ch len i = i := by rw [sk_s, if_neg (fun z => by omega)]
    unfold M_Reader_peek_L0
    rw [es]
    by_cases c : 480 ≤ i
    · rw [if_pos (show (480 : Int32) ≤ nI i from nI_le (a := 480) c (by omega))]
    · rw [if_neg (show ¬ (480 : Int32) ≤ nI i from nI_ge (a := i) (b := 480) (by omega) (by decide)), bd_e _ (S_at hc i (by omega)), if_neg (show ¬ cc ch len i = (32 : Int32) from fun z => by have := ((cc_eq hc (k := 32) (by decide)).mp z).1; omega)]
  | d + 1, i, n, hi, hn => by
    obtain ⟨n, rfl⟩ : ∃ m, n = m + 1 := ⟨n - 1, by omega⟩
    have h480 := hc.1
    unfold M_Reader_peek_L0
    rw [if_neg (show ¬ (480 : Int32) ≤ nI i from nI_ge (a := i) (b := 480) (by omega) (by decide)), bd_e _ (S_at hc i (by omega)), sk_s]
    by_cases c : i < len ∧ ch i = 32
    · rw [if_pos (show cc ch len i = (32 : Int32) from (cc_eq hc (k := 32) (by decide)).mpr c), if_pos c, lt_e, nI_1]
      exact S_peek_L hc d (i + 1) n (by omega) (by omega)
    · rw [if_neg (show ¬ cc ch len i = (32 : Int32) from fun z => c ((cc_eq hc (k := 32) (by decide)).mp z)), if_neg c]
theorem S_peek (hc : CH ch text tape len) (hF : 480 < F) {i : Nat} (hi : i ≤ len) : M_Reader_peek F (nI i) text (nI len) = some (cc ch len (sk ch len i), nI (sk ch len i)) := by
  have h480 := hc.1
  unfold M_Reader_peek
  rw [bd_e _ (S_peek_L (F := F) hc (len - i) i F (by omega) (by omega)), bd_e _ (S_at hc _ (by have := sk_len (ch := ch) hi; omega))]
/-- the next character is k -/
def nx (ch : Nat → Nat) (len i k : Nat) : Prop := sk ch len i < len ∧ ch (sk ch len i) = k
theorem S_acc1 (hc : CH ch text tape len) (hF : 480 < F) {i k : Nat} (hi : i ≤ len) (hk : k < 2 ^ 31) (h : nx ch len i k) : M_Reader_accept F (nI i) text (nI len) (nI k) = some (1, nI (sk ch len i + 1)) := by
  unfold M_Reader_accept
  rw [bd_e _ (S_peek hc hF hi), if_pos ((cc_eq hc hk).mpr h), lt_e, nI_1]
theorem S_acc0 (hc : CH ch text tape len) (hF : 480 < F) {i k : Nat} (hi : i ≤ len) (hk : k < 2 ^ 31) (h : ¬ nx ch len i k) : M_Reader_accept F (nI i) text (nI len) (nI k) = some (0, nI (sk ch len i)) := by
  unfold M_Reader_accept
  rw [bd_e _ (S_peek hc hF hi), if_neg (fun z => h ((cc_eq hc hk).mp z))]
theorem nx_sk {i k : Nat} : nx ch len (sk ch len i) k ↔ nx ch len i k := by unfold nx; rw [sk_sk]
theorem S_here (hc : CH ch text tape len) (i : Nat) (hi : i < 2 ^ 31) : M_Model_here tape (nI len) (nI i) = some (cr0 ch len i) := by
  have h480 := hc.1
  unfold M_Model_here cr0
  by_cases c : i < len
  · rw [if_neg (nI_ge c (by omega)), gd_n _ (show i < 480 by omega) (by decide), nI_clamp hi, if_pos c, (hc.2 i c).2.2]
  · rw [if_pos (nI_le (by omega) hi), if_neg c]
theorem S_skip_L (hc : CH ch text tape len) : ∀ (d i n : Nat), i + d = len → d < n → M_Model_skip_L0 F tape (nI len) n (nI i) = some (nI (sk ch len i))
  | 0, i, n, hi, hn => by
    obtain ⟨n, rfl⟩ : ∃ m, n = m + 1 := ⟨n - 1, by omega⟩
    have h480 := hc.1
    have es : sk ch len i = i := by rw [sk_s, if_neg (fun z => by omega)]
    unfold M_Model_skip_L0
    rw [es, if_pos (nI_le (by omega) (by omega))]
  | d + 1, i, n, hi, hn => by
    obtain ⟨n, rfl⟩ : ∃ m, n = m + 1 := ⟨n - 1, by omega⟩
    have h480 := hc.1
    have hl : i < len := by omega
    unfold M_Model_skip_L0
    rw [if_neg (nI_ge hl (by omega)), gd_n _ (show i < 480 by omega) (by decide), nI_clamp (show i < 2 ^ 31 by omega), (hc.2 i hl).2.2, sk_s]
    have hcc := (hc.2 i hl).1.2
    by_cases c : ch i = 32
    · rw [if_pos (show nI (ch i) = (32 : Int32) by rw [c]; rfl), if_pos ⟨hl, c⟩, lt_e, nI_1]
      exact S_skip_L hc d (i + 1) n (by omega) (by omega)
    · rw [if_neg (show ¬ nI (ch i) = (32 : Int32) from fun z => c ((nI_eq (a := ch i) (b := 32) (by omega) (by decide)).mp z)), if_neg (fun z => c z.2)]
theorem S_skip (hc : CH ch text tape len) (hF : 480 < F) {i : Nat} (hi : i ≤ len) : M_Model_skip F tape (nI len) (nI i) = some (nI (sk ch len i)) := by
  have h480 := hc.1
  unfold M_Model_skip
  exact bd_e (fun z2 => some z2) (S_skip_L (F := F) hc (len - i) i F (by omega) (by omega))
theorem S_next (hc : CH ch text tape len) (hF : 480 < F) {i : Nat} (hi : i < len) : M_Model_next F tape (nI len) (nI i) = some (nI (sk ch len (i + 1))) := by
  unfold M_Model_next
  rw [lt_e, nI_1]
  exact bd_e (fun z2 => some z2) (S_skip hc hF (show i + 1 ≤ len by omega))
/-- digits -/
def dgt (ch : Nat → Nat) (len i : Nat) : Prop := i < len ∧ 48 ≤ ch i ∧ ch i ≤ 57
def NV (cv rv : Nat) : Prop := (cv = rv ∧ rv < 12) ∨ (cv = 12 ∧ 12 ≤ rv ∧ rv ≤ 1009)
theorem S_digits (hc : CH ch text tape len) : ∀ (d i n m : Nat) (cv rv : Nat), i + d = len → d < n → d < m → NV cv rv → ∃ j cv' rv', M_Reader_readNumber_L19 F text (nI len) n (cc ch len i) (nI cv) (nI i) = some (nI cv', nI j) ∧ M_Model_term_L68 F tape (nI len) m (nI rv) (nI i) = some (nI rv', nI j) ∧ NV cv' rv' ∧ i ≤ j ∧ j ≤ len ∧ (dgt ch len i → i + 1 ≤ j) ∧ (¬ dgt ch len i → j = i)
  | 0, i, n, m, cv, rv, hi, hn, hm, nv => by
    obtain ⟨n, rfl⟩ : ∃ k, n = k + 1 := ⟨n - 1, by omega⟩
    obtain ⟨m, rfl⟩ : ∃ k, m = k + 1 := ⟨m - 1, by omega⟩
    have h480 := hc.1
    have e : cc ch len i = -1 := if_neg (by omega)
    refine ⟨i, cv, rv, ?_, ?_, nv, Nat.le_refl i, by omega, fun z => absurd z.1 (by omega), fun _ => rfl⟩
    · unfold M_Reader_readNumber_L19
      rw [e, if_pos (by decide)]
    · unfold M_Model_term_L68
      rw [if_pos (nI_le (by omega) (by omega))]
  | d + 1, i, n, m, cv, rv, hi, hn, hm, nv => by
    obtain ⟨n, rfl⟩ : ∃ k, n = k + 1 := ⟨n - 1, by omega⟩
    obtain ⟨m, rfl⟩ : ∃ k, m = k + 1 := ⟨m - 1, by omega⟩
    have h480 := hc.1
    have hl : i < len := by omega
    have hcc := (hc.2 i hl).1.2
    have e : cc ch len i = nI (ch i) := if_pos hl
    unfold M_Reader_readNumber_L19 M_Model_term_L68
    rw [e, if_neg (nI_ge hl (by omega)), gd_n _ (show i < 480 by omega) (by decide), nI_clamp (show i < 2 ^ 31 by omega), (hc.2 i hl).2.2]
    by_cases c1 : ch i < 48
    · have z : M_Model_isDigit (nI (ch i)) = some 0 := by
        unfold M_Model_isDigit
        rw [if_pos (show nI (ch i) < (48 : Int32) from nI_lt (b := 48) c1 (by decide))]
      rw [if_pos (show nI (ch i) < (48 : Int32) from nI_lt (b := 48) c1 (by decide)), bd_e _ z, if_pos rfl]
      exact ⟨i, cv, rv, rfl, rfl, nv, Nat.le_refl i, by omega, fun z => by have := z.2.1; omega, fun _ => rfl⟩
    · have l1 : ¬ nI (ch i) < (48 : Int32) := nI_nlt (b := 48) (by omega) (by omega)
      by_cases c2 : 57 < ch i
      · have l2 : (57 : Int32) < nI (ch i) := nI_lt (a := 57) c2 (by omega)
        have z : M_Model_isDigit (nI (ch i)) = some 0 := by
          unfold M_Model_isDigit
          rw [if_neg l1, if_pos l2]
        rw [if_neg l1, if_pos l2, bd_e _ z, if_pos rfl]
        exact ⟨i, cv, rv, rfl, rfl, nv, Nat.le_refl i, by omega, fun z => by have := z.2.2; omega, fun _ => rfl⟩
      · have l2 : ¬ (57 : Int32) < nI (ch i) := nI_nlt (a := 57) (b := ch i) (by omega) (by decide)
        have z : M_Model_isDigit (nI (ch i)) = some 1 := by
          unfold M_Model_isDigit
          rw [if_neg l1, if_neg l2]
        have ev : ∀ x, x < 2000 → nI x * (10 : Int32) + nI (ch i) - (48 : Int32) = nI (x * 10 + ch i - 48) := fun x hx => by
          have : nI x * (10 : Int32) = nI (x * 10) := pk_mul x 10
          rw [this, nI_add]
          exact pk_sub (b := 48) (by omega)
        have ev2 : (10 : Int32) * nI rv + nI (ch i) - (48 : Int32) = nI (rv * 10 + ch i - 48) := by
          have : (10 : Int32) * nI rv = nI (10 * rv) := pk_mul 10 rv
          rw [this, nI_add, Nat.mul_comm 10]
          exact pk_sub (b := 48) (by omega)
        have hcv : cv < 2000 := by rcases nv with h | h <;> omega
        rw [if_neg l1, if_neg l2, if_neg (show ¬ (480 : Int32) ≤ nI i from nI_ge (a := i) (b := 480) (by omega) (by decide)), lt_e, lt_e, ev cv hcv, nI_1, bd_e _ (S_at hc (i + 1) (by omega)), bd_e _ z, if_neg (show ¬ (1 : Int32) = 0 by decide)]
        have fin : ∀ cv' rv', NV cv' rv' → ∃ j cv'' rv'', M_Reader_readNumber_L19 F text (nI len) n (cc ch len (i + 1)) (nI cv') (nI (i + 1)) = some (nI cv'', nI j) ∧ M_Model_term_L68 F tape (nI len) m (nI rv') (nI (i + 1)) = some (nI rv'', nI j) ∧ NV cv'' rv'' ∧ i ≤ j ∧ j ≤ len ∧ (dgt ch len i → i + 1 ≤ j) ∧ (¬ dgt ch len i → j = i) := fun cv' rv' nv' => by
          obtain ⟨j, cv'', rv'', a1, a2, a3, a4, a5, a6, a7⟩ := S_digits hc d (i + 1) n m cv' rv' (by omega) (by omega) (by omega) nv'
          exact ⟨j, cv'', rv'', a1, a2, a3, by omega, a5, fun _ => a4, fun z => absurd ⟨hl, by omega, by omega⟩ z⟩
        by_cases c3 : 12 < cv * 10 + ch i - 48
        · have h12 : (if (12 : Int32) < nI (cv * 10 + ch i - 48) then (12 : Int32) else nI (cv * 10 + ch i - 48)) = nI 12 := if_pos (nI_lt (a := 12) c3 (by omega))
          rw [h12]
          by_cases c4 : rv ≤ 100
          · rw [if_pos (show nI rv ≤ (100 : Int32) from nI_le (b := 100) c4 (by decide)), gd_n _ (show i < 480 by omega) (by decide), lt_e, lt_e, lt_e, ev2]
            exact fin 12 _ (by unfold NV at *; rcases nv with h | h <;> omega)
          · rw [if_neg (show ¬ nI rv ≤ (100 : Int32) from nI_ge (a := 100) (b := rv) (by omega) (by rcases nv with h | h <;> omega)), lt_e]
            exact fin 12 rv (by unfold NV at *; rcases nv with h | h <;> omega)
        · have h12 : (if (12 : Int32) < nI (cv * 10 + ch i - 48) then (12 : Int32) else nI (cv * 10 + ch i - 48)) = nI (cv * 10 + ch i - 48) := if_neg (nI_nlt (a := 12) (b := cv * 10 + ch i - 48) (by omega) (by decide))
          rw [h12]
          have hrv : rv = cv := by unfold NV at nv; rcases nv with h | h <;> omega
          subst hrv
          rw [if_pos (show nI rv ≤ (100 : Int32) from nI_le (b := 100) (by omega) (by decide)), gd_n _ (show i < 480 by omega) (by decide), lt_e, lt_e, lt_e, ev2]
          exact fin _ _ (by unfold NV at *; rcases nv with h | h <;> omega)
end
