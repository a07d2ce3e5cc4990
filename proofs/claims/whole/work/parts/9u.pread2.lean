/-! a term, alike on both sides -/
def mtv (v : Nat) : Nat := if v < 12 then v else 88 + v
theorem S_addTerm {width term : Nat → Int32} {n w v : Nat} (hn : n < 240) (hw : w < 3) (ew : width n = nI w) : M_Program_addTerm width term (nI (n + 1)) (nI v) = some (upd width n (nI (w + 1)), upd term (3 * n + w) (nI v)) := by
  have e : nI (n + 1) - (1 : Int32) = nI n := nI_pred n
  unfold M_Program_addTerm
  rw [lt_e, e, if_neg (nI_pos (by omega)), gd_n _ hn (by decide), nI_clamp (show n < 2 ^ 31 by omega), ew, if_pos (show nI w < (3 : Int32) from nI_lt (b := 3) hw (by decide)), gd_n _ hn (by decide), lt_e, x3, gd_n _ (show 3 * n + w < 720 by omega) (by decide), lt_e, gd_n _ hn (by decide), gd_n _ hn (by decide), lt_e, nI_clamp (show 3 * n + w < 2 ^ 31 by omega), nI_1]
section
variable {ch : Nat → Nat} {text tape : Nat → Int32} {len F : Nat}
/-- one term: the same fault, or the same term behind it -/
theorem E_term (hc : CH ch text tape len) (hF : 480 < F) {i n w T : Nat} {width term mterm : Nat → Int32} {wr f fp : Int32} (hi : i ≤ len) (hn : n < 240) (hw : w < 3) (ew : width n = nI w) (hT : T ≤ i) :
    (∃ p a b c d, M_Reader_readTerm F (nI i) wr text (nI len) width term (nI (n + 1)) = some (0, a, nI p, width, term) ∧ M_Model_term F tape (nI len) f fp (nI (sk ch len i)) (nI T) mterm = some (0, 1, nI p, b, c, d) ∧ p ≤ len) ∨
    (∃ v j, v < 38 ∧ sk ch len i + 1 ≤ j ∧ j ≤ len ∧ T < 480 ∧ M_Reader_readTerm F (nI i) wr text (nI len) width term (nI (n + 1)) = some (1, nI j, wr, upd width n (nI (w + 1)), upd term (3 * n + w) (nI v)) ∧ M_Model_term F tape (nI len) f fp (nI (sk ch len i)) (nI T) mterm = some (1, f, fp, nI (sk ch len j), nI (T + 1), upd mterm T (nI (mtv v)))) := by
  have h480 := hc.1
  have hsl := sk_len (ch := ch) hi
  have hsg := sk_le (ch := ch) (len := len) i
  generalize hq : sk ch len i = q at *
  -- the way of the numbers
  have num : ¬ (q < len ∧ 65 ≤ ch q ∧ ch q ≤ 90) → (∃ p a b c d, M_Reader_readNumber F (nI q) wr text (nI len) width term (nI (n + 1)) = some (0, a, nI p, width, term) ∧ M_Model_term F tape (nI len) f fp (nI q) (nI T) mterm = some (0, 1, nI p, b, c, d) ∧ p ≤ len) ∨ (∃ v j, v < 38 ∧ q + 1 ≤ j ∧ j ≤ len ∧ T < 480 ∧ M_Reader_readNumber F (nI q) wr text (nI len) width term (nI (n + 1)) = some (1, nI j, wr, upd width n (nI (w + 1)), upd term (3 * n + w) (nI v)) ∧ M_Model_term F tape (nI len) f fp (nI q) (nI T) mterm = some (1, f, fp, nI (sk ch len j), nI (T + 1), upd mterm T (nI (mtv v)))) := fun hnv => by
    have ev : M_Model_isVariable (cr0 ch len q) = some 0 := by
      unfold M_Model_isVariable cr0
      by_cases c : q < len
      · have hcc := (hc.2 q c).1.2
        rw [if_pos c]
        by_cases c2 : ch q < 65
        · rw [if_pos (show nI (ch q) < (65 : Int32) from nI_lt (b := 65) c2 (by decide))]
        · rw [if_neg (show ¬ nI (ch q) < (65 : Int32) from nI_nlt (b := 65) (by omega) (by omega)), if_pos (show (90 : Int32) < nI (ch q) from nI_lt (a := 90) (by omega) (by omega))]
      · rw [if_neg c, if_pos (by decide)]
    obtain ⟨j, cv, rv, a1, a2, nv, b1, b2, b3, b4⟩ := S_digits (F := F) hc (len - q) q F F 0 0 (by omega) (by omega) (by omega) (Or.inl ⟨rfl, by decide⟩)
    have a1 : M_Reader_readNumber_L19 F text (nI len) F (cc ch len q) (0 : Int32) (nI q) = some (nI cv, nI j) := a1
    have a2 : M_Model_term_L68 F tape (nI len) F (0 : Int32) (nI q) = some (nI rv, nI j) := a2
    have hcv : cv ≤ 12 := by unfold NV at nv; rcases nv with h | h <;> omega
    have hrv : rv ≤ 1009 := by unfold NV at nv; rcases nv with h | h <;> omega
    have t00 : (0 : Int32) = 0 := rfl
    have t10 : ¬ (1 : Int32) = 0 := by decide
    have ejq : j ≠ q → ¬ nI j = nI q := fun h z => h ((nI_eq (by omega) (by omega)).mp z)
    have C0 : (j = q ∨ 12 ≤ cv ∨ (q + 1 < j ∧ cc ch len q = (48 : Int32))) → M_Reader_readNumber F (nI q) wr text (nI len) width term (nI (n + 1)) = some (0, nI j, nI q, width, term) := fun h => by
      unfold M_Reader_readNumber
      rw [bd_e _ (S_at hc q (by omega)), bd_e _ a1, nI_1]
      by_cases c1 : j ≤ q + 1
      · rw [if_pos (nI_le c1 (by omega))]
        by_cases c2 : j = q
        · rw [if_pos (congrArg nI c2)]; rfl
        · have : ¬ nI cv < (12 : Int32) := nI_nlt (b := 12) (by omega) (by omega)
          rw [if_neg (ejq c2), if_pos t00, if_neg this]; rfl
      · rw [if_neg (nI_ge (a := q + 1) (b := j) (by omega) (by omega)), bd_e _ (S_at hc q (by omega))]
        by_cases c3 : cc ch len q = (48 : Int32)
        · rw [if_pos c3, if_neg (ejq (by omega)), if_neg t10]; rfl
        · have h12 : 12 ≤ cv := by
            rcases h with h | h | h
            · omega
            · exact h
            · exact absurd h.2 c3
          have : ¬ nI cv < (12 : Int32) := nI_nlt (b := 12) (by omega) (by omega)
          rw [if_neg c3, if_neg (ejq (by omega)), if_pos t00, if_neg this]; rfl
    have C1 : j ≠ q → cv < 12 → ¬ (q + 1 < j ∧ cc ch len q = (48 : Int32)) → M_Reader_readNumber F (nI q) wr text (nI len) width term (nI (n + 1)) = some (1, nI j, wr, upd width n (nI (w + 1)), upd term (3 * n + w) (nI cv)) := fun h1 h2 h3 => by
      have l12 : nI cv < (12 : Int32) := nI_lt (b := 12) h2 (by decide)
      unfold M_Reader_readNumber
      rw [bd_e _ (S_at hc q (by omega)), bd_e _ a1, nI_1]
      by_cases c1 : j ≤ q + 1
      · rw [if_pos (nI_le c1 (by omega)), if_neg (ejq h1), if_pos t00, if_pos l12, bd_e _ (S_addTerm hn hw ew)]
      · rw [if_neg (nI_ge (a := q + 1) (b := j) (by omega) (by omega)), bd_e _ (S_at hc q (by omega)), if_neg (show ¬ cc ch len q = (48 : Int32) from fun z => h3 ⟨by omega, z⟩), if_neg (ejq h1), if_pos t00, if_pos l12, bd_e _ (S_addTerm hn hw ew)]
    by_cases cd : dgt ch len q
    · have hd1 := b3 cd
      obtain ⟨d1, d2, d3⟩ := cd
      have hcc := (hc.2 q d1).1.2
      have ed : M_Model_isDigit (cr0 ch len q) = some 1 := by
        unfold M_Model_isDigit cr0
        rw [if_pos d1, if_neg (show ¬ nI (ch q) < (48 : Int32) from nI_nlt (b := 48) (by omega) (by omega)), if_neg (show ¬ (57 : Int32) < nI (ch q) from nI_nlt (a := 57) (b := ch q) (by omega) (by decide))]
      have esub : nI j - nI q = nI (j - q) := pk_sub (by omega)
      have ec : cc ch len q = nI (ch q) := if_pos d1
      have e48 : nI (ch q) = (48 : Int32) ↔ ch q = 48 := nI_eq (a := ch q) (b := 48) (by omega) (by decide)
      by_cases bad : 12 ≤ rv ∨ (q + 1 < j ∧ ch q = 48)
      · refine Or.inl ⟨q, nI j, nI j, nI T, mterm, C0 ?_, ?_, by omega⟩
        · rcases bad with h | h
          · exact Or.inr (Or.inl (by unfold NV at nv; rcases nv with h | h <;> omega))
          · exact Or.inr (Or.inr ⟨h.1, by rw [ec]; exact e48.mpr h.2⟩)
        · unfold M_Model_term
          rw [bd_e _ (S_here hc q (by omega)), bd_e _ ev, if_pos t00, bd_e _ ed, if_neg t10, bd_e _ a2]
          by_cases c12 : 12 ≤ rv
          · rw [if_pos (show (12 : Int32) ≤ nI rv from nI_le (a := 12) c12 (by omega))]; rfl
          · have h := bad.resolve_left c12
            rw [if_neg (show ¬ (12 : Int32) ≤ nI rv from nI_ge (a := rv) (b := 12) (by omega) (by decide)), esub, if_neg (show ¬ nI (j - q) ≤ (1 : Int32) from nI_ge (a := 1) (b := j - q) (by omega) (by omega)), gd_n _ (show q < 480 by omega) (by decide), nI_clamp (show q < 2 ^ 31 by omega), (hc.2 q d1).2.2, if_pos (e48.mpr h.2)]
            rfl
      · have c12 : ¬ 12 ≤ rv := fun z => bad (Or.inl z)
        have hcv12 : cv = rv := by unfold NV at nv; rcases nv with h | h <;> omega
        refine Or.inr ⟨cv, j, by omega, by omega, b2, by omega, C1 (by omega) (by omega) (fun z => bad (Or.inr ⟨z.1, by have := z.2; rw [ec] at this; exact e48.mp this⟩)), ?_⟩
        have em : nI (mtv cv) = nI rv := by
          unfold mtv
          rw [if_pos (by omega), hcv12]
        unfold M_Model_term
        rw [em, bd_e _ (S_here hc q (by omega)), bd_e _ ev, if_pos t00, bd_e _ ed, if_neg t10, bd_e _ a2, if_neg (show ¬ (12 : Int32) ≤ nI rv from nI_ge (a := rv) (b := 12) (by omega) (by decide)), esub]
        by_cases c1 : j ≤ q + 1
        · rw [if_pos (show nI (j - q) ≤ (1 : Int32) from nI_le (b := 1) (by omega) (by decide)), bd_e _ (S_skip hc hF b2), gd_n _ (show T < 480 by omega) (by decide), lt_e, lt_e, nI_1, nI_clamp (show T < 2 ^ 31 by omega)]
        · rw [if_neg (show ¬ nI (j - q) ≤ (1 : Int32) from nI_ge (a := 1) (b := j - q) (by omega) (by omega)), gd_n _ (show q < 480 by omega) (by decide), nI_clamp (show q < 2 ^ 31 by omega), (hc.2 q d1).2.2, if_neg (fun z => bad (Or.inr ⟨by omega, e48.mp z⟩)), bd_e _ (S_skip hc hF b2), gd_n _ (show T < 480 by omega) (by decide), lt_e, lt_e, nI_1, nI_clamp (show T < 2 ^ 31 by omega)]
    · have hj := b4 cd
      have ed : M_Model_isDigit (cr0 ch len q) = some 0 := by
        unfold M_Model_isDigit cr0
        by_cases c : q < len
        · have hcc := (hc.2 q c).1.2
          rw [if_pos c]
          by_cases c2 : ch q < 48
          · rw [if_pos (show nI (ch q) < (48 : Int32) from nI_lt (b := 48) c2 (by decide))]
          · have : 57 < ch q := by
              refine Classical.byContradiction (fun z => cd ⟨c, by omega, by omega⟩)
            rw [if_neg (show ¬ nI (ch q) < (48 : Int32) from nI_nlt (b := 48) (by omega) (by omega)), if_pos (show (57 : Int32) < nI (ch q) from nI_lt (a := 57) this (by omega))]
        · rw [if_neg c, if_pos (by decide)]
      refine Or.inl ⟨q, nI j, nI q, nI T, mterm, C0 (Or.inl hj), ?_, by omega⟩
      unfold M_Model_term
      rw [bd_e _ (S_here hc q (by omega)), bd_e _ ev, if_pos t00, bd_e _ ed, if_pos t00]
      rfl
  have pk := S_peek hc hF hi
  rw [hq] at pk
  unfold M_Reader_readTerm
  rw [bd_e _ pk]
  by_cases cv : q < len ∧ 65 ≤ ch q ∧ ch q ≤ 90
  · obtain ⟨c1, c2, c3⟩ := cv
    have ec : cc ch len q = nI (ch q) := if_pos c1
    have er : cr0 ch len q = nI (ch q) := if_pos c1
    have ev : M_Model_isVariable (nI (ch q)) = some 1 := by
      unfold M_Model_isVariable
      rw [if_neg (show ¬ nI (ch q) < (65 : Int32) from nI_nlt (b := 65) (by omega) (by omega)), if_neg (show ¬ (90 : Int32) < nI (ch q) from nI_nlt (a := 90) (b := ch q) (by omega) (by decide))]
    have e1 : (12 : Int32) + nI (ch q) - (65 : Int32) = nI (12 + ch q - 65) := by
      have : (12 : Int32) + nI (ch q) = nI (12 + ch q) := nI_add 12 (ch q)
      rw [this]
      exact pk_sub (b := 65) (by omega)
    have e2 : (100 : Int32) + nI (ch q) - (65 : Int32) = nI (mtv (12 + ch q - 65)) := by
      have : (100 : Int32) + nI (ch q) = nI (100 + ch q) := nI_add 100 (ch q)
      rw [this]
      refine (pk_sub (b := 65) (by omega)).trans (congrArg nI ?_)
      unfold mtv
      rw [if_neg (by omega)]
      omega
    refine Or.inr ⟨12 + ch q - 65, q + 1, by omega, by omega, by omega, by omega, ?_, ?_⟩
    · rw [ec, if_neg (show ¬ nI (ch q) < (65 : Int32) from nI_nlt (b := 65) (by omega) (by omega)), if_pos (show nI (ch q) ≤ (90 : Int32) from nI_le (b := 90) c3 (by decide)), e1, bd_e _ (S_addTerm hn hw ew), lt_e, nI_1]
    · unfold M_Model_term
      rw [bd_e _ (S_here hc q (by omega)), er, bd_e _ ev, if_neg (show ¬ (1 : Int32) = 0 by decide), gd_n _ (show T < 480 by omega) (by decide), lt_e, lt_e, bd_e _ (S_next hc hF c1), nI_1, nI_clamp (show T < 2 ^ 31 by omega), e2]
  · have num := num cv
    have way : ∀ x, (if cc ch len q < (65 : Int32) then x else (if cc ch len q ≤ (90 : Int32) then (bd_ (M_Program_addTerm width term (nI (n + 1)) (((12 : Int32) + cc ch len q) - (65 : Int32))) fun z3 => lt_ ((nI q + (1 : Int32))) fun v4 => some ((1 : Int32), v4, wr, z3.1, z3.2)) else x)) = x := fun x => by
      by_cases c : cc ch len q < (65 : Int32)
      · rw [if_pos c]
      · rw [if_neg c]
        refine if_neg (fun z => ?_)
        by_cases cl : q < len
        · have ec : cc ch len q = nI (ch q) := if_pos cl
          have hcc := (hc.2 q cl).1.2
          rw [ec] at c z
          refine cv ⟨cl, ?_, ?_⟩
          · exact Classical.byContradiction (fun y => c (nI_lt (b := 65) (by omega) (by decide)))
          · exact Classical.byContradiction (fun y => nI_ge (a := 90) (b := ch q) (by omega) (by omega) z)
        · have ec : cc ch len q = -1 := if_neg cl
          rw [ec] at c
          exact c (by decide)
    have e : ∀ r : (Int32) × (Int32) × (Int32) × (Nat → Int32) × (Nat → Int32), M_Reader_readNumber F (nI q) wr text (nI len) width term (nI (n + 1)) = some r → (r.1 = 0 ∨ r.1 = 1) → (if cc ch len q < (65 : Int32) then (bd_ (M_Reader_readNumber F (nI q) wr text (nI len) width term (nI (n + 1))) fun z2 => gz_ z2.1 <| some (z2.1, z2.2.1, z2.2.2.1, z2.2.2.2.1, z2.2.2.2.2)) else (if cc ch len q ≤ (90 : Int32) then (bd_ (M_Program_addTerm width term (nI (n + 1)) (((12 : Int32) + cc ch len q) - (65 : Int32))) fun z3 => lt_ ((nI q + (1 : Int32))) fun v4 => some ((1 : Int32), v4, wr, z3.1, z3.2)) else (bd_ (M_Reader_readNumber F (nI q) wr text (nI len) width term (nI (n + 1))) fun z5 => gz_ z5.1 <| some (z5.1, z5.2.1, z5.2.2.1, z5.2.2.2.1, z5.2.2.2.2)))) = some r := fun r hr h01 => by
      rw [way, bd_e _ hr]
      rcases h01 with h | h <;> rw [h]
      · have := gz_b (α := (Int32) × (Int32) × (Int32) × (Nat → Int32) × (Nat → Int32)) false (some (0, r.2.1, r.2.2.1, r.2.2.2.1, r.2.2.2.2))
        have e0 : bI false = 0 := rfl
        rw [e0] at this
        rw [this, ← h]
      · have := gz_b (α := (Int32) × (Int32) × (Int32) × (Nat → Int32) × (Nat → Int32)) true (some (1, r.2.1, r.2.2.1, r.2.2.2.1, r.2.2.2.2))
        have e0 : bI true = 1 := rfl
        rw [e0] at this
        rw [this, ← h]
    rcases num with ⟨p, a, b, c, d, h1, h2, h3⟩ | ⟨v, j, h1, h2, h3, h4, h5, h6⟩
    · exact Or.inl ⟨p, a, b, c, d, e _ h1 (Or.inl rfl), h2, h3⟩
    · exact Or.inr ⟨v, j, h1, h2, h3, h4, e _ h5 (Or.inr rfl), h6⟩
end
