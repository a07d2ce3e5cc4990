/-- the same tape on both sides -/
def TP (text tape : Nat → Int32) (len : Nat) : Prop := ∀ i, i < len → ∃ c, 32 ≤ c ∧ c ≤ 126 ∧ text i = nI c ∧ tape i = nI c
def pc_ (w : Int64) (j : Nat) : Prop := 32 ≤ cB w j ∧ cB w j ≤ 126
theorem cB_lt (w : Int64) (i : Nat) : cB w i < 256 := Nat.mod_lt _ (by decide)
theorem S_byteOf (w : Int64) {i : Nat} (hi : i < 8) : M_Tape_byteOf w (nI i) = some (nI (cB w i)) := by
  unfold M_Tape_byteOf
  rw [lt_e, byte1 w hi]
theorem c_lo {w : Int64} {j : Nat} : nI (cB w j) < (32 : Int32) ↔ cB w j < 32 := nI_ltI (a := cB w j) (b := 32) (by have := cB_lt w j; omega) (by decide)
theorem c_hi {w : Int64} {j : Nat} : nI (cB w j) ≤ (126 : Int32) ↔ cB w j ≤ 126 := nI_leI (a := cB w j) (b := 126) (by have := cB_lt w j; omega) (by decide)
theorem S_print_L {F : Nat} {w : Int64} {n : Nat} (hn : n ≤ 8) : ∀ (d j f : Nat), j + d = n → d < f → ((∀ m, j ≤ m → m < n → pc_ w m) → M_Tape_isPrintable_L2 F w (nI n) f (nI j) = some (.inl ())) ∧ ((¬ ∀ m, j ≤ m → m < n → pc_ w m) → M_Tape_isPrintable_L2 F w (nI n) f (nI j) = some (.inr 0))
  | 0, j, f, hj, hf => by
    obtain ⟨f, rfl⟩ : ∃ m, f = m + 1 := ⟨f - 1, by omega⟩
    refine ⟨fun _ => ?_, fun h => absurd (fun m h1 h2 => absurd h1 (by omega)) h⟩
    unfold M_Tape_isPrintable_L2
    rw [if_pos (nI_le (by omega) (by omega))]
  | d + 1, j, f, hj, hf => by
    obtain ⟨f, rfl⟩ : ∃ m, f = m + 1 := ⟨f - 1, by omega⟩
    unfold M_Tape_isPrintable_L2
    rw [if_neg (nI_ge (by omega) (by omega)), bd_e _ (S_byteOf w (show j < 8 by omega))]
    have ih := S_print_L (F := F) (w := w) hn d (j + 1) f (by omega) (by omega)
    by_cases h1 : cB w j < 32
    · rw [if_pos (c_lo.mpr h1)]
      exact ⟨fun h => absurd (h j (Nat.le_refl j) (by omega)).1 (by omega), fun _ => rfl⟩
    · rw [if_neg (fun z => h1 (c_lo.mp z))]
      by_cases h2 : cB w j ≤ 126
      · rw [if_pos (c_hi.mpr h2), lt_e, nI_1]
        refine ⟨fun h => ih.1 (fun m a b => h m (by omega) b), fun h => ih.2 (fun h3 => h (fun m a b => ?_))⟩
        by_cases e : m = j
        · subst e; exact ⟨by omega, h2⟩
        · exact h3 m (by omega) b
      · rw [if_neg (fun z => h2 (c_hi.mp z))]
        exact ⟨fun h => absurd (h j (Nat.le_refl j) (by omega)).2 h2, fun _ => rfl⟩
theorem S_printM_L {F : Nat} {th : Int32} {tape : Nat → Int32} {len : Int32} {w : Int64} {n : Nat} (hn : n ≤ 8) : ∀ (d j f : Nat), j + d = n → d < f → ((∀ m, j ≤ m → m < n → pc_ w m) → M_Model_type_L33 F th tape len w (nI n) f (nI j) = some (.inl ())) ∧ ((¬ ∀ m, j ≤ m → m < n → pc_ w m) → M_Model_type_L33 F th tape len w (nI n) f (nI j) = some (.inr (0, th, tape, len)))
  | 0, j, f, hj, hf => by
    obtain ⟨f, rfl⟩ : ∃ m, f = m + 1 := ⟨f - 1, by omega⟩
    refine ⟨fun _ => ?_, fun h => absurd (fun m h1 h2 => absurd h1 (by omega)) h⟩
    unfold M_Model_type_L33
    rw [if_pos (nI_le (by omega) (by omega))]
  | d + 1, j, f, hj, hf => by
    obtain ⟨f, rfl⟩ : ∃ m, f = m + 1 := ⟨f - 1, by omega⟩
    unfold M_Model_type_L33
    rw [if_neg (nI_ge (by omega) (by omega)), byte2 w (show j < 8 by omega), lt_e]
    have ih := S_printM_L (F := F) (th := th) (tape := tape) (len := len) (w := w) hn d (j + 1) f (by omega) (by omega)
    by_cases h1 : cB w j < 32
    · rw [if_pos (c_lo.mpr h1)]
      exact ⟨fun h => absurd (h j (Nat.le_refl j) (by omega)).1 (by omega), fun _ => rfl⟩
    · rw [if_neg (fun z => h1 (c_lo.mp z))]
      by_cases h2 : cB w j ≤ 126
      · rw [if_pos (c_hi.mpr h2), lt_e, nI_1]
        refine ⟨fun h => ih.1 (fun m a b => h m (by omega) b), fun h => ih.2 (fun h3 => h (fun m a b => ?_))⟩
        by_cases e : m = j
        · subst e; exact ⟨by omega, h2⟩
        · exact h3 m (by omega) b
      · rw [if_neg (fun z => h2 (c_hi.mp z))]
        exact ⟨fun h => absurd (h j (Nat.le_refl j) (by omega)).2 h2, fun _ => rfl⟩
/-- m bytes, the highest first, put from len on -/
def atp (w : Int64) : Nat → (Nat → Int32) → Nat → (Nat → Int32)
  | 0, t, _ => t
  | m + 1, t, len => atp w m (upd t len (nI (cB w m))) (len + 1)
def yv : Nat → Int32
  | 0 => -1
  | m + 1 => nI m
theorem yv_s (m : Nat) : nI m + (-1 : Int32) = yv m := by
  cases m with
  | zero => decide +kernel
  | succ m => exact pk_m1 m
theorem b_nar : ∀ c, c < 128 → vp_nar .byte ((nI c).toInt8.toInt32) = nI c := by decide +kernel
theorem S_app_L {F : Nat} {w : Int64} : ∀ (m f : Nat) (text : Nat → Int32) (len : Nat), m ≤ 8 → m < f → len + m ≤ 480 → (∀ j, j < m → pc_ w j) → M_Tape_append_L38 F w f (yv m) text (nI len) = some (atp w m text len, nI (len + m))
  | 0, f, text, len, h8, hf, hl, hp => by
    obtain ⟨f, rfl⟩ : ∃ m, f = m + 1 := ⟨f - 1, by omega⟩
    unfold M_Tape_append_L38
    rw [if_pos (show yv 0 < 0 from neg1_lt)]
    rfl
  | m + 1, f, text, len, h8, hf, hl, hp => by
    obtain ⟨f, rfl⟩ : ∃ m, f = m + 1 := ⟨f - 1, by omega⟩
    unfold M_Tape_append_L38
    have h1 := hp m (by omega)
    rw [show yv (m + 1) = nI m from rfl, if_neg (nI_pos (by omega)), bd_e _ (S_byteOf w (show m < 8 by omega)), gd_n _ (show len < 480 by omega) (by decide), lt_e, lt_e, lt_e, yv_s, nI_1, nI_clamp (by omega), b_nar _ (by have := h1.2; omega), S_app_L m f _ (len + 1) (by omega) (by omega) (by omega) (fun j hj => hp j (by omega)), show len + 1 + m = len + (m + 1) by omega]
    rfl
theorem S_appM_L {F : Nat} {w : Int64} : ∀ (m f : Nat) (tape : Nat → Int32) (len : Nat), m ≤ 8 → m < f → len + m ≤ 480 → M_Model_type_L80 F w f (yv m) tape (nI len) = some (atp w m tape len, nI (len + m))
  | 0, f, tape, len, h8, hf, hl => by
    obtain ⟨f, rfl⟩ : ∃ m, f = m + 1 := ⟨f - 1, by omega⟩
    unfold M_Model_type_L80
    rw [if_pos (show yv 0 < 0 from neg1_lt)]
    rfl
  | m + 1, f, tape, len, h8, hf, hl => by
    obtain ⟨f, rfl⟩ : ∃ m, f = m + 1 := ⟨f - 1, by omega⟩
    unfold M_Model_type_L80
    rw [show yv (m + 1) = nI m from rfl, if_neg (nI_pos (by omega)), gd_n _ (show len < 480 by omega) (by decide), lt_e, lt_e, lt_e, yv_s, nI_1, nI_clamp (by omega), byte2 w (show m < 8 by omega), S_appM_L m f _ (len + 1) (by omega) (by omega) (by omega), show len + 1 + m = len + (m + 1) by omega]
    rfl
theorem TP.app {w : Int64} : ∀ (m : Nat) (text tape : Nat → Int32) (len : Nat), (∀ j, j < m → pc_ w j) → TP text tape len → TP (atp w m text len) (atp w m tape len) (len + m)
  | 0, _, _, _, _, h => h
  | m + 1, text, tape, len, hp, h => by
    have := TP.app m (upd text len (nI (cB w m))) (upd tape len (nI (cB w m))) (len + 1) (fun j hj => hp j (by omega)) (fun i hi => by
      by_cases e : i = len
      · subst e
        exact ⟨cB w m, (hp m (by omega)).1, (hp m (by omega)).2, pk_us, pk_us⟩
      · rw [pk_un e, pk_un e]; exact h i (by omega))
    rw [show len + 1 + m = len + (m + 1) by omega] at this
    exact this
theorem lt1 {x : Int32} (h1 : ¬ x < 1) (h2 : ¬ (8 : Int32) < x) : ∃ n, 1 ≤ n ∧ n ≤ 8 ∧ x = nI n := by
  have h0 : ¬ x < 0 := by
    simp only [Int32.lt_iff_toInt_lt] at *
    have : (1 : Int32).toInt = 1 := by decide
    have : (0 : Int32).toInt = 0 := by decide
    omega
  have h8 : x ≤ 8 := by
    simp only [Int32.lt_iff_toInt_lt, Int32.le_iff_toInt_le] at *
    omega
  obtain ⟨n, hn, rfl⟩ := nI_of2 (M := 8) (n := 8) (by decide) h0 h8
  refine ⟨n, ?_, hn, rfl⟩
  rcases Nat.eq_zero_or_pos n with z | z
  · subst z; exact absurd (by decide +kernel) h1
  · exact z
theorem cs_L {α β γ : Type} (a : α) (f : α → γ) (g : β → γ) : cs_ (Sum.inl a : α ⊕ β) f g = f a := rfl
/-- type(word, n): alike -/
theorem E_type {F : Nat} {text tape : Nat → Int32} {len : Nat} (ht : TP text tape len) (hl : len ≤ 480) (hF : 17280 < F) (th : Int32) (w : Int64) (x : Int32) : ∃ r text' tape' len', M_Hall_type F text (nI len) w x = some (r, text', nI len') ∧ M_Model_type F th tape (nI len) w x = some (r, 0, tape', nI len') ∧ TP text' tape' len' ∧ len' ≤ 480 := by
  have key : ∃ r text' tape' len', (r = 0 ∨ r = 1) ∧ M_Tape_append F text (nI len) w x = some (r, text', nI len') ∧ M_Model_type F th tape (nI len) w x = some (r, 0, tape', nI len') ∧ TP text' tape' len' ∧ len' ≤ 480 := by
    by_cases h1 : x < 1
    · exact ⟨0, text, tape, len, Or.inl rfl, by unfold M_Tape_append; rw [if_pos h1], by unfold M_Model_type; rw [if_pos h1], ht, hl⟩
    · by_cases h2 : (8 : Int32) < x
      · exact ⟨0, text, tape, len, Or.inl rfl, by unfold M_Tape_append; rw [if_neg h1, if_pos h2], by unfold M_Model_type; rw [if_neg h1, if_pos h2], ht, hl⟩
      · obtain ⟨n, n1, n8, rfl⟩ := lt1 h1 h2
        by_cases h3 : len + n ≤ 480
        · have c1 : ¬ (480 : Int32) < nI len + nI n := by rw [nI_add]; exact nI_nlt (a := 480) h3 (by decide)
          have c2 : nI len + nI n ≤ (480 : Int32) := by rw [nI_add]; exact nI_le (b := 480) h3 (by decide)
          have p1 := S_print_L (F := F) (w := w) n8 n 0 F (by omega) (by omega)
          have p2 := S_printM_L (F := F) (th := 0) (tape := tape) (len := nI len) (w := w) n8 n 0 F (by omega) (by omega)
          obtain ⟨m, rfl⟩ : ∃ m, n = m + 1 := ⟨n - 1, by omega⟩
          by_cases hall : ∀ j, 0 ≤ j → j < m + 1 → pc_ w j
          · have hall2 : ∀ j, j < m + 1 → pc_ w j := fun j hj => hall j (Nat.zero_le j) hj
            refine ⟨1, atp w (m + 1) text len, atp w (m + 1) tape len, len + (m + 1), Or.inr rfl, ?_, ?_, TP.app (m + 1) text tape len hall2 ht, h3⟩
            · unfold M_Tape_append M_Tape_isPrintable
              have e := p1.1 hall
              have e : M_Tape_isPrintable_L2 F w (nI (m + 1)) F (0 : Int32) = some (.inl ()) := e
              rw [if_neg h1, if_neg h2, if_neg c1, bd_e _ (bd_e (fun z3 => cs_ z3 (fun q4 => some (1 : Int32)) (fun o => some o)) e)]
              rw [if_neg (show ¬ (1 : Int32) = 0 by decide), lt_e, nI_pred, bd_e _ (show M_Tape_append_L38 F w F (nI m) text (nI len) = some (atp w (m + 1) text len, nI (len + (m + 1))) from S_app_L (m + 1) F text len n8 (by omega) h3 hall2)]
            · unfold M_Model_type
              have e := p2.1 hall
              have e : M_Model_type_L33 F (0 : Int32) tape (nI len) w (nI (m + 1)) F (0 : Int32) = some (.inl ()) := e
              rw [if_neg h1, if_neg h2, if_pos c2, bd_e _ e]
              simp only [cs_L]
              rw [lt_e, nI_pred, bd_e _ (show M_Model_type_L80 F w F (nI m) tape (nI len) = some (atp w (m + 1) tape len, nI (len + (m + 1))) from S_appM_L (m + 1) F tape len n8 (by omega) h3)]
          · refine ⟨0, text, tape, len, Or.inl rfl, ?_, ?_, ht, hl⟩
            · unfold M_Tape_append M_Tape_isPrintable
              have e := p1.2 hall
              have e : M_Tape_isPrintable_L2 F w (nI (m + 1)) F (0 : Int32) = some (.inr 0) := e
              rw [if_neg h1, if_neg h2, if_neg c1, bd_e _ (bd_e (fun z3 => cs_ z3 (fun q4 => some (1 : Int32)) (fun o => some o)) e)]
              rw [if_pos rfl]
            · unfold M_Model_type
              have e := p2.2 hall
              have e : M_Model_type_L33 F (0 : Int32) tape (nI len) w (nI (m + 1)) F (0 : Int32) = some (.inr (0, 0, tape, nI len)) := e
              rw [if_neg h1, if_neg h2, if_pos c2, bd_e _ e]
              rfl
        · refine ⟨0, text, tape, len, Or.inl rfl, ?_, ?_, ht, hl⟩
          · unfold M_Tape_append
            rw [if_neg h1, if_neg h2, if_pos (by rw [nI_add]; exact nI_lt (a := 480) (by omega) (by omega))]
          · unfold M_Model_type
            rw [if_neg h1, if_neg h2, if_neg (by rw [nI_add]; exact nI_ge (a := 480) (by omega) (by omega))]
  obtain ⟨r, text', tape', len', h01, a1, a2, a3, a4⟩ := key
  refine ⟨r, text', tape', len', ?_, a2, a3, a4⟩
  unfold M_Hall_type
  rw [bd_e _ a1, gz_01 h01]
