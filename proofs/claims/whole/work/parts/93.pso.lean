/-- a part's truth: 1 an atom, 2 a denied one, 3 and on comparisons -/
def pt (G : Nat → Nat → Bool) (k p w : Nat) (v : Nat → Nat) : Bool := if k = 1 then G p (nmv v w) else if k = 2 then !G p (nmv v w) else cmpv (k - 3) (v 0) (v 1)
theorem S_isSo1 {F : Nat} {value fa la kind who width term : Nat → Int32} {e w p : Nat} {le : Int32} {v : Nat → Nat} (he : e < 240) (hw : w ≤ 3) (hp : p < 10) (ek : kind e = nI 1) (ep : who e = nI p) (ew : width e = nI w) (hv : VC value term e w v) (hF : 3 < F) : M_Search_isSo F value le fa la kind who width term (nI e) = some (bI (if nI e = le then fh la p (nmv v w) else fh fa p (nmv v w))) := by
  have hn : nmv v w < 1728 := nmv_lt3 hw (fun t ht => by obtain ⟨s, -, -, -, h⟩ := hv t ht; exact h)
  unfold M_Search_isSo
  rw [gd_n _ he (by decide), nI_clamp (show e < 2 ^ 31 by omega), ek, if_pos (show nI 1 = (1 : Int32) from rfl)]
  by_cases c : nI e = le
  · rw [if_pos c, if_pos c, gd_n _ he (by decide), bd_e _ (S_numberOf he hw ew hv hF), ep, bd_e _ (S_has hp hn), gz_b]
  · rw [if_neg c, if_neg c, gd_n _ he (by decide), bd_e _ (S_numberOf he hw ew hv hF), ep, bd_e _ (S_has hp hn), gz_b]
theorem S_isSo2 {F : Nat} {value fa la kind who width term : Nat → Int32} {e w p : Nat} {le : Int32} {v : Nat → Nat} (he : e < 240) (hw : w ≤ 3) (hp : p < 10) (ek : kind e = nI 2) (ep : who e = nI p) (ew : width e = nI w) (hv : VC value term e w v) (hF : 3 < F) : M_Search_isSo F value le fa la kind who width term (nI e) = some (bI (!fh fa p (nmv v w))) := by
  have hn : nmv v w < 1728 := nmv_lt3 hw (fun t ht => by obtain ⟨s, -, -, -, h⟩ := hv t ht; exact h)
  unfold M_Search_isSo
  rw [gd_n _ he (by decide), nI_clamp (show e < 2 ^ 31 by omega), ek, if_neg (show ¬ nI 2 = (1 : Int32) by decide +kernel), if_pos (show nI 2 = (2 : Int32) from rfl), gd_n _ he (by decide), bd_e _ (S_numberOf he hw ew hv hF), ep, bd_e _ (S_has hp hn)]
  cases fh fa p (nmv v w) <;> rfl
theorem S_isSo3 {F : Nat} {value fa la kind who width term : Nat → Int32} {e k : Nat} {le : Int32} {v : Nat → Nat} (he : e < 240) (hk : k < 3) (ek : kind e = nI (3 + k)) (hv : VC value term e 2 v) : M_Search_isSo F value le fa la kind who width term (nI e) = some (bI (cmpv k (v 0) (v 1))) := by
  have n1 : ¬ nI (3 + k) = (1 : Int32) := fun z => by have := (nI_eq (a := 3 + k) (b := 1) (by omega) (by decide)).mp z; omega
  have n2 : ¬ nI (3 + k) = (2 : Int32) := fun z => by have := (nI_eq (a := 3 + k) (b := 2) (by omega) (by decide)).mp z; omega
  unfold M_Search_isSo
  rw [gd_n _ he (by decide), nI_clamp (show e < 2 ^ 31 by omega), ek, if_neg n1, if_neg n2, bd_e _ (S_compare he hk ek hv), gz_b]
theorem S_isSoM1 {F : Nat} {ps pp pts termOf holds value : Nat → Int32} {G : Nat → Nat → Bool} {i w p : Nat} {v : Nat → Nat} (hi : i < 96) (hw : w ≤ 3) (hp : p < 10) (es : ps i = nI 0) (ep : pp i = nI p) (ew : pts i = nI w) (hv : VM termOf value i w v) (hF : 3 < F) (hG : ∀ q k, q < 10 → k < 1728 → holds (1728 * q + k) = bI (G q k)) : M_Model_isSo F ps pp pts termOf holds value (nI i) = some (bI (G p (nmv v w))) := by
  have hn : nmv v w < 1728 := nmv_lt3 hw (fun t ht => (hv t ht).1)
  unfold M_Model_isSo
  rw [gd_n _ hi (by decide), nI_clamp (show i < 2 ^ 31 by omega), es, if_pos (show nI 0 = (0 : Int32) from rfl), bd_e _ (S_factOf hi hw ep ew hv hF), gd_n _ (show 1728 * p + nmv v w < 17280 by omega) (by decide), nI_clamp (show 1728 * p + nmv v w < 2 ^ 31 by omega), hG p _ hp hn, gz_b]
theorem S_isSoM2 {F : Nat} {ps pp pts termOf holds value : Nat → Int32} {G : Nat → Nat → Bool} {i w p : Nat} {v : Nat → Nat} (hi : i < 96) (hw : w ≤ 3) (hp : p < 10) (es : ps i = nI 1) (ep : pp i = nI p) (ew : pts i = nI w) (hv : VM termOf value i w v) (hF : 3 < F) (hG : ∀ q k, q < 10 → k < 1728 → holds (1728 * q + k) = bI (G q k)) : M_Model_isSo F ps pp pts termOf holds value (nI i) = some (bI (!G p (nmv v w))) := by
  have hn : nmv v w < 1728 := nmv_lt3 hw (fun t ht => (hv t ht).1)
  unfold M_Model_isSo
  rw [gd_n _ hi (by decide), nI_clamp (show i < 2 ^ 31 by omega), es, if_neg (show ¬ nI 1 = (0 : Int32) by decide +kernel), if_pos (show nI 1 = (1 : Int32) from rfl), bd_e _ (S_factOf hi hw ep ew hv hF), gd_n _ (show 1728 * p + nmv v w < 17280 by omega) (by decide), nI_clamp (show 1728 * p + nmv v w < 2 ^ 31 by omega), hG p _ hp hn]
  cases G p (nmv v w) <;> rfl
