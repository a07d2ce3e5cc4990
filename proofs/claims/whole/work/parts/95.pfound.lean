theorem S_found {F : Nat} {pp pts termOf holds value : Nat → Int32} {r f : Nat} {count fresh : Int32} (hf : f < 17280) (e : M_Model_factOf F pp pts termOf value (nI (6 * r)) = some (nI f)) : M_Model_found F pp pts termOf holds value (-1) count fresh (nI r) = some (upd holds f 1, count, if fresh = 0 ∧ ¬ holds f = 0 then 0 else 1) := by
  have n1 : vp_nar .boolean (1 : Int32) = 1 := by decide +kernel
  have e6 : (6 : Int32) * nI r = nI (6 * r) := pk_mul 6 r
  unfold M_Model_found
  rw [e6, bd_e _ e, if_pos rfl, nI_clamp (show f < 2 ^ 31 by omega), n1]
  by_cases c : fresh = 0
  · rw [if_pos c, gd_n _ hf (by decide)]
    by_cases c2 : holds f = 0
    · rw [if_pos c2, gd_n _ hf (by decide), lt_e, if_neg (fun z => z.2 c2)]
    · rw [if_neg c2, gd_n _ hf (by decide), lt_e, if_pos ⟨c, c2⟩]
  · rw [if_neg c, gd_n _ hf (by decide), lt_e, if_neg (fun z => c z.1)]
theorem S_foundW {F : Nat} {pp pts termOf holds value : Nat → Int32} {r f g : Nat} {count fresh : Int32} (hf : f < 17280) (hg : g < 17280) (e : M_Model_factOf F pp pts termOf value (nI (6 * r)) = some (nI f)) : M_Model_found F pp pts termOf holds value (nI g) count fresh (nI r) = some (holds, if f = g then count + 1 else count, fresh) := by
  have e6 : (6 : Int32) * nI r = nI (6 * r) := pk_mul 6 r
  unfold M_Model_found
  rw [e6, bd_e _ e, if_neg (nI_nm1 (by omega))]
  by_cases c : f = g
  · rw [if_pos (by rw [c]), lt_e, if_pos c]
  · rw [if_neg (fun z => c ((nI_eq (by omega) (by omega)).mp z)), if_neg c]
/-- the class: a solution is taken -/
theorem S_take {fa fr frc who : Nat → Int32} {h p n : Nat} {sol : Int32} (hh : h < 240) (hp : p < 10) (hn : n < 1728) (ew : who h = nI p) (ok : FSok fr frc) : ∃ fr' frc', M_Search_takeSolution (nI h) 0 sol fa fr frc who (nI n) = some (sol, fr', frc') ∧ FSok fr' frc' ∧ ∀ q k, k < 1728 → fh fr' q k = (fh fr q k || (decide (q = p ∧ k = n) && !fh fa p n)) := by
  unfold M_Search_takeSolution
  rw [if_pos rfl, gd_n _ hh (by decide), nI_clamp (show h < 2 ^ 31 by omega), ew, bd_e _ (S_has hp hn)]
  cases hf : fh fa p n with
  | true =>
    rw [if_neg bI_t]
    exact ⟨fr, frc, rfl, ok, fun q k hk => by simp⟩
  | false =>
    obtain ⟨fr', frc', e, ok', g⟩ := S_addX (row := fr) (count := frc) hp hn ok
    rw [if_pos bI_f, gd_n _ hh (by decide), bd_e _ e]
    exact ⟨fr', frc', rfl, ok', fun q k hk => by rw [g q k hk]; simp⟩
theorem S_takeC {fa fr frc who : Nat → Int32} {h : Nat} {sol x : Int32} : M_Search_takeSolution (nI h) 1 sol fa fr frc who x = some (sol + 1, fr, frc) := by
  unfold M_Search_takeSolution
  rw [if_neg (show ¬ (1 : Int32) = 0 by decide), lt_e]
