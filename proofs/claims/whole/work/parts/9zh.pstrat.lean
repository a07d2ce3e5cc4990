/-! the reference's strata -/
theorem sm_leV {V W : Nat → Nat} (h : ∀ p, V p ≤ W p) : ∀ n, sm V n ≤ sm W n
  | 0 => Nat.le_refl 0
  | n + 1 => by
    have := sm_leV h n
    have := h n
    show sm V n + V n ≤ sm W n + W n
    omega
theorem sm_ltV {V W : Nat → Nat} (h : ∀ p, V p ≤ W p) {k : Nat} (hk : V k < W k) : ∀ {n : Nat}, k < n → sm V n < sm W n
  | 0, hn => absurd hn (Nat.not_lt_zero _)
  | n + 1, hn => by
    show sm V n + V n < sm W n + W n
    by_cases c : k = n
    · subst c
      have := sm_leV h k
      omega
    · have := sm_ltV h hk (show k < n by omega)
      have := h n
      omega
def RF (P : AP) (V V' : Nat → Nat) (y y' : Int32) : Prop := RG P V V' ∧ (y' = 0 ∨ y' = 1) ∧ (y' = 0 → y = 0 ∧ V' = V) ∧ (y' = 1 → y = 1 ∨ sm V 10 < sm V' 10)
theorem RF.refl {P : AP} {V : Nat → Nat} {y : Int32} (hy : y = 0 ∨ y = 1) : RF P V V y y := ⟨RG.refl, hy, fun z => ⟨z, rfl⟩, fun z => Or.inl z⟩
theorem RF.trans {P : AP} {V W Z : Nat → Nat} {x y z : Int32} (a : RF P V W x y) (b : RF P W Z y z) : RF P V Z x z := by
  obtain ⟨a1, a2, a3, a4⟩ := a
  obtain ⟨b1, b2, b3, b4⟩ := b
  refine ⟨a1.trans b1, b2, fun q => ?_, fun q => ?_⟩
  · obtain ⟨c1, c2⟩ := b3 q
    obtain ⟨d1, d2⟩ := a3 c1
    exact ⟨d1, c2.trans d2⟩
  · have l1 := sm_leV a1.1 10
    have l2 := sm_leV b1.1 10
    rcases b4 q with c | c
    · rcases a4 c with d | d
      · exact Or.inl d
      · exact Or.inr (by omega)
    · exact Or.inr (by omega)
section
variable {F : Nat} {P : AP} {ix : Nat → Nat → Nat} {mv : Nat → Nat} {pc ps pp pts termOf vc : Nat → Int32} {W0 : Nat → Nat}
theorem x6 (r i : Nat) : (6 : Int32) * nI r + nI i = nI (6 * r + i) := by
  have : (6 : Int32) * nI r = nI (6 * r) := pk_mul 6 r
  rw [this, nI_add]
theorem S_ad363 (ok : P.ok) (hm : RM P ix mv pc ps pp pts termOf vc) (hW : pfx P W0) (hW10 : ∀ p, W0 p ≤ 10) {r : Nat} (hr : r < P.R) : ∀ (d i f : Nat) (y : Int32) (row : Nat → Int32) (V : Nat → Nat), i + d = P.K r + 1 → 1 ≤ i → d < f → (y = 0 ∨ y = 1) → (∀ p, p < 10 → row p = nI (V p)) → (∀ p, V p ≤ W0 p) → ∃ y' row' V', M_Model_adopt_L363 F pc ps pp (nI (P.pd r 0)) (nI r) f (nI i) y row = some (y', row') ∧ (∀ p, p < 10 → row' p = nI (V' p)) ∧ RF P V V' y y' ∧ ∀ x, i ≤ x → x ≤ P.K r → P.kd r x ≤ 2 → V (P.pd r x) + (if P.kd r x = 2 then 1 else 0) ≤ V' (P.pd r 0)
  | 0, i, f, y, row, V, hi, h1, hf, hy, hrow, hV => by
    obtain ⟨f, rfl⟩ : ∃ m, f = m + 1 := ⟨f - 1, by omega⟩
    have r16 := ok.1
    have k5 := (ok.2 r hr).1
    unfold M_Model_adopt_L363
    rw [gd_n _ (show r < 16 by omega) (by decide), nI_clamp (show r < 2 ^ 31 by omega), (hm r hr).1, if_pos (nI_lt (by omega) (by omega))]
    exact ⟨y, row, V, rfl, hrow, RF.refl hy, fun x x1 x2 => by omega⟩
  | d + 1, i, f, y, row, V, hi, h1, hf, hy, hrow, hV => by
    obtain ⟨f, rfl⟩ : ∃ m, f = m + 1 := ⟨f - 1, by omega⟩
    have r16 := ok.1
    have K5 := (ok.2 r hr).1
    obtain ⟨k5, k1, w3, w2, p10, t38⟩ := (ok.2 r hr).2.2 i (by omega)
    obtain ⟨es, ep, -, -⟩ := (hm r hr).2.2 i (by omega)
    have k0 := (ok.2 r hr).2.1
    have h10 := ((ok.2 r hr).2.2 0 (Nat.zero_le _)).2.2.2.2.1 (by omega)
    have k1 := k1 h1
    unfold M_Model_adopt_L363
    rw [gd_n _ (show r < 16 by omega) (by decide), nI_clamp (show r < 2 ^ 31 by omega), (hm r hr).1, if_neg (nI_nlt (a := P.K r) (b := i) (by omega) (by omega)), x6, gd_n _ (show 6 * r + i < 96 by omega) (by decide), lt_e, nI_clamp (show 6 * r + i < 2 ^ 31 by omega), es]
    by_cases ck : P.kd r i ≤ 2
    · have p10 := p10 ck
      have ew : (if P.kd r i = 2 then 1 else 0) = P.kd r i - 1 := by split <;> omega
      have hcn : CnP P (P.pd r 0) (P.pd r i) (P.kd r i - 1) := ⟨r, hr, rfl, i, h1, by omega, ck, rfl, ew.symm⟩
      have hq := hV (P.pd r i)
      have hq2 := hW10 (P.pd r i)
      have hh := hV (P.pd r 0)
      have hh2 := hW10 (P.pd r 0)
      rw [if_pos (show nI (P.kd r i - 1) ≤ (1 : Int32) from nI_le (b := 1) (by omega) (by decide)), gd_n _ (show 6 * r + i < 96 by omega) (by decide), lt_e, ep ck, gd_n _ p10 (by decide), gd_n _ (show 6 * r + i < 96 by omega) (by decide), lt_e, lt_e, nI_clamp (show P.pd r i < 2 ^ 31 by omega), hrow _ p10, nI_add, nI_clamp (show P.pd r 0 < 2 ^ 31 by omega), hrow _ h10, gd_n _ h10 (by decide)]
      by_cases cl : V (P.pd r i) + (P.kd r i - 1) ≤ V (P.pd r 0)
      · have ll : nI (V (P.pd r i) + (P.kd r i - 1)) ≤ nI (V (P.pd r 0)) := nI_le cl (by omega)
        obtain ⟨y2, row2, V2, g1, g2, g3, g4⟩ := S_ad363 ok hm hW hW10 hr d (i + 1) f y row V (by omega) (by omega) (by omega) hy hrow hV
        have fin : ∃ y' row' V', M_Model_adopt_L363 F pc ps pp (nI (P.pd r 0)) (nI r) f (nI (i + 1)) y row = some (y', row') ∧ (∀ p, p < 10 → row' p = nI (V' p)) ∧ RF P V V' y y' ∧ ∀ x, i ≤ x → x ≤ P.K r → P.kd r x ≤ 2 → V (P.pd r x) + (if P.kd r x = 2 then 1 else 0) ≤ V' (P.pd r 0) := by
          refine ⟨y2, row2, V2, g1, g2, g3, fun x x1 x2 x3 => ?_⟩
          by_cases cx : x = i
          · subst cx
            rw [ew]
            exact Nat.le_trans cl (g3.1.1 _)
          · exact g4 x (by omega) x2 x3
        rcases hy with hy | hy
        · subst hy
          rw [if_pos rfl, if_pos ll, gd_n _ h10 (by decide), if_pos ll, lt_e, nI_1]
          exact fin
        · subst hy
          rw [if_neg (by decide), gd_n _ h10 (by decide), if_pos ll, lt_e, nI_1]
          exact fin
      · have ll : ¬ nI (V (P.pd r i) + (P.kd r i - 1)) ≤ nI (V (P.pd r 0)) := nI_ge (by omega) (by omega)
        have hlt : V (P.pd r 0) < V (P.pd r i) + (P.kd r i - 1) := by omega
        have hg : RG P V (mx V (P.pd r 0) (V (P.pd r i) + (P.kd r i - 1))) := RG_mx hcn
        have hrf : RF P V (mx V (P.pd r 0) (V (P.pd r i) + (P.kd r i - 1))) y 1 := ⟨hg, Or.inr rfl, fun z => absurd z (by decide), fun _ => Or.inr (sm_ltV hg.1 (k := P.pd r 0) (Nat.lt_of_lt_of_le hlt mx_ge) h10)⟩
        obtain ⟨y2, row2, V2, g1, g2, g3, g4⟩ := S_ad363 ok hm hW hW10 hr d (i + 1) f 1 (upd row (P.pd r 0) (nI (V (P.pd r i) + (P.kd r i - 1)))) (mx V (P.pd r 0) (V (P.pd r i) + (P.kd r i - 1))) (by omega) (by omega) (by omega) (Or.inr rfl) (upd_mx hrow hlt) (hg.2 W0 hW hV)
        have fin : ∃ y' row' V', M_Model_adopt_L363 F pc ps pp (nI (P.pd r 0)) (nI r) f (nI (i + 1)) 1 (upd row (P.pd r 0) (nI (V (P.pd r i) + (P.kd r i - 1)))) = some (y', row') ∧ (∀ p, p < 10 → row' p = nI (V' p)) ∧ RF P V V' y y' ∧ ∀ x, i ≤ x → x ≤ P.K r → P.kd r x ≤ 2 → V (P.pd r x) + (if P.kd r x = 2 then 1 else 0) ≤ V' (P.pd r 0) := by
          refine ⟨y2, row2, V2, g1, g2, hrf.trans g3, fun x x1 x2 x3 => ?_⟩
          by_cases cx : x = i
          · subst cx
            rw [ew]
            exact Nat.le_trans mx_ge (g3.1.1 _)
          · have := g4 x (by omega) x2 x3
            have := hg.1 (P.pd r x)
            omega
        rcases hy with hy | hy
        · subst hy
          rw [if_pos rfl, if_neg ll, gd_n _ h10 (by decide), if_neg ll, gd_n _ h10 (by decide), lt_e, lt_e, nI_1]
          exact fin
        · subst hy
          rw [if_neg (by decide), gd_n _ h10 (by decide), if_neg ll, gd_n _ h10 (by decide), lt_e, lt_e, nI_1]
          exact fin
    · rw [if_neg (show ¬ nI (P.kd r i - 1) ≤ (1 : Int32) from nI_ge (a := 1) (b := P.kd r i - 1) (by omega) (by omega)), lt_e, nI_1]
      obtain ⟨y2, row2, V2, g1, g2, g3, g4⟩ := S_ad363 ok hm hW hW10 hr d (i + 1) f y row V (by omega) (by omega) (by omega) hy hrow hV
      refine ⟨y2, row2, V2, g1, g2, g3, fun x x1 x2 x3 => ?_⟩
      by_cases cx : x = i
      · subst cx; exact absurd x3 ck
      · exact g4 x (by omega) x2 x3
theorem S_ad342 (ok : P.ok) (hm : RM P ix mv pc ps pp pts termOf vc) (hF : 200 < F) (hW : pfx P W0) (hW10 : ∀ p, W0 p ≤ 10) : ∀ (d j f : Nat) (y : Int32) (row : Nat → Int32) (V : Nat → Nat), j + d = P.R → d < f → (y = 0 ∨ y = 1) → (∀ p, p < 10 → row p = nI (V p)) → (∀ p, V p ≤ W0 p) → ∃ y' row' V', M_Model_adopt_L342 F (nI P.R) pc ps pp f (nI j) y row = some (y', row') ∧ (∀ p, p < 10 → row' p = nI (V' p)) ∧ RF P V V' y y' ∧ ∀ r x, j ≤ r → r < P.R → 1 ≤ x → x ≤ P.K r → P.kd r x ≤ 2 → V (P.pd r x) + (if P.kd r x = 2 then 1 else 0) ≤ V' (P.pd r 0)
  | 0, j, f, y, row, V, hj, hf, hy, hrow, hV => by
    obtain ⟨f, rfl⟩ : ∃ m, f = m + 1 := ⟨f - 1, by omega⟩
    have r16 := ok.1
    unfold M_Model_adopt_L342
    rw [if_pos (nI_le (by omega) (by omega))]
    exact ⟨y, row, V, rfl, hrow, RF.refl hy, fun r x r1 r2 => by omega⟩
  | d + 1, j, f, y, row, V, hj, hf, hy, hrow, hV => by
    obtain ⟨f, rfl⟩ : ∃ m, f = m + 1 := ⟨f - 1, by omega⟩
    have r16 := ok.1
    have hjR : j < P.R := by omega
    have k0 := (ok.2 j hjR).2.1
    have k5 := (ok.2 j hjR).1
    have e6 : (6 : Int32) * nI j = nI (6 * j) := pk_mul 6 j
    have ep : pp (6 * j) = nI (P.pd j 0) := ((hm j hjR).2.2 0 (Nat.zero_le _)).2.1 (by omega)
    obtain ⟨y1, row1, V1, g1, g2, g3, g4⟩ := S_ad363 (F := F) ok hm hW hW10 hjR (P.K j) 1 F y row V (by omega) (Nat.le_refl 1) (by omega) hy hrow hV
    have g1 : M_Model_adopt_L363 F pc ps pp (nI (P.pd j 0)) (nI j) F (1 : Int32) y row = _ := g1
    obtain ⟨y2, row2, V2, k1, k2, k3, k4⟩ := S_ad342 ok hm hF hW hW10 d (j + 1) f y1 row1 V1 (by omega) (by omega) g3.2.1 g2 (g3.1.2 W0 hW hV)
    unfold M_Model_adopt_L342
    rw [if_neg (nI_ge (a := j) (b := P.R) hjR (by omega)), e6, gd_n _ (show 6 * j < 96 by omega) (by decide), lt_e, nI_clamp (show 6 * j < 2 ^ 31 by omega), ep, bd_e _ g1, lt_e, nI_1]
    refine ⟨y2, row2, V2, k1, k2, g3.trans k3, fun r x r1 r2 x1 x2 x3 => ?_⟩
    by_cases cr : r = j
    · subst cr
      exact Nat.le_trans (g4 x x1 x2 x3) (k3.1.1 _)
    · have := k4 r x (by omega) r2 x1 x2 x3
      have := g3.1.1 (P.pd r x)
      omega
theorem S_ad334 (ok : P.ok) (hm : RM P ix mv pc ps pp pts termOf vc) (hF : 200 < F) (hW : pfx P W0) (hW10 : ∀ p, W0 p ≤ 10) : ∀ (d f : Nat) (row : Nat → Int32) (V : Nat → Nat), sm V 10 + d = 100 → d + 1 < f → (∀ p, p < 10 → row p = nI (V p)) → (∀ p, V p ≤ W0 p) → ∃ row' V', M_Model_adopt_L334 F (nI P.R) pc ps pp f 1 row = some row' ∧ (∀ p, p < 10 → row' p = nI (V' p)) ∧ RG P V V' ∧ pfx P V' := fun d => by
  induction d using Nat.strongRecOn with
  | ind d ih =>
    intro f row V hd hf hrow hV
    obtain ⟨f, rfl⟩ : ∃ m, f = m + 1 := ⟨f - 1, by omega⟩
    have r16 := ok.1
    obtain ⟨y1, row1, V1, g1, g2, g3, g4⟩ := S_ad342 (F := F) ok hm hF hW hW10 P.R 0 F 0 row V (by omega) (by omega) (Or.inl rfl) hrow hV
    have g1 : M_Model_adopt_L342 F (nI P.R) pc ps pp F (0 : Int32) (0 : Int32) row = _ := g1
    unfold M_Model_adopt_L334
    rw [if_neg (by decide), bd_e _ g1]
    rcases g3.2.1 with z | z
    · obtain ⟨-, eV⟩ := g3.2.2.1 z
      subst z
      subst eV
      obtain ⟨f, rfl⟩ : ∃ m, f = m + 1 := ⟨f - 1, by omega⟩
      refine ⟨row1, V1, ?_, g2, RG.refl, fun h q w ⟨r, hr, e1, i, i1, i2, i3, e2, e3⟩ => ?_⟩
      · show M_Model_adopt_L334 F (nI P.R) pc ps pp (f + 1) 0 row1 = _
        unfold M_Model_adopt_L334
        rw [if_pos rfl]
      · rw [← e1, ← e2, e3]
        exact g4 r i (Nat.zero_le _) hr i1 i2 i3
    · subst z
      rcases g3.2.2.2 rfl with z | z
      · exact absurd z (by decide)
      · have hV1 := g3.1.2 W0 hW hV
        have t2 : sm V1 10 ≤ 100 := Nat.le_trans (sm_leV (fun p => Nat.le_trans (hV1 p) (hW10 p)) 10) (by decide)
        obtain ⟨row2, V2, k1, k2, k3, k4⟩ := ih (100 - sm V1 10) (by omega) f row1 V1 (by omega) (by omega) g2 hV1
        exact ⟨row2, V2, k1, k2, g3.1.trans k3, k4⟩
theorem S_ad299 {kd : Nat → Int32} {so : Nat → Nat} (hso : ∀ p, p < 10 → kd p = nI (so p) ∧ so p ≤ 2) : ∀ (d j f : Nat) (row : Nat → Int32), j + d = 10 → d < f → (∀ p, p < j → row p = nI (if so p = 2 then 1 else 0)) → ∃ row', M_Model_adopt_L299 F kd f (nI j) row = some row' ∧ ∀ p, p < 10 → row' p = nI (if so p = 2 then 1 else 0)
  | 0, j, f, row, hj, hf, h => by
    obtain ⟨f, rfl⟩ : ∃ m, f = m + 1 := ⟨f - 1, by omega⟩
    have : j = 10 := by omega
    subst this
    unfold M_Model_adopt_L299
    rw [if_pos (by decide +kernel)]
    exact ⟨row, rfl, h⟩
  | d + 1, j, f, row, hj, hf, h => by
    obtain ⟨f, rfl⟩ : ∃ m, f = m + 1 := ⟨f - 1, by omega⟩
    have hj2 : j < 10 := by omega
    obtain ⟨e, l⟩ := hso j hj2
    unfold M_Model_adopt_L299
    rw [if_neg (show ¬ (10 : Int32) ≤ nI j from nI_ge (a := j) (b := 10) hj2 (by decide)), gd_n _ hj2 (by decide), nI_clamp (show j < 2 ^ 31 by omega), e]
    have rec1 : ∀ x, x = nI (if so j = 2 then 1 else 0) → ∀ p, p < j + 1 → (upd row j x) p = nI (if so p = 2 then 1 else 0) := fun x hx p hp => by
      by_cases c : p = j
      · rw [c, pk_us, hx]
      · rw [pk_un c]; exact h p (by omega)
    by_cases c : so j = 2
    · rw [if_pos (show nI (so j) = (2 : Int32) by rw [c]; rfl), gd_n _ hj2 (by decide), lt_e, lt_e, nI_1]
      exact S_ad299 hso d (j + 1) f _ (by omega) (by omega) (rec1 1 (by rw [if_pos c]; rfl))
    · rw [if_neg (show ¬ nI (so j) = (2 : Int32) from fun z => c ((nI_eq (b := 2) (by omega) (by decide)).mp z)), gd_n _ hj2 (by decide), lt_e, lt_e, nI_1]
      exact S_ad299 hso d (j + 1) f _ (by omega) (by omega) (rec1 0 (by rw [if_neg c]; rfl))
/-- how many DERIVED predicates lie strictly below p -/
def phi (so : Nat → Nat) (re : Nat → Int32) (p : Nat) : Nat := if so p = 2 then 1 + ct (fun q => decide (so q = 2) && bt (re p) q && !bt (re q) p) 10 else 0
theorem phi_10 {so : Nat → Nat} {re : Nat → Int32} (hso : ∀ p, 10 ≤ p → so p = 0) (r1 : ∀ p, p < 10 → bt (re p) p = true) (p : Nat) : phi so re p ≤ 10 := by
  unfold phi
  split
  · rename_i h
    have hp : p < 10 := Classical.byContradiction (fun z => by rw [hso p (by omega)] at h; omega)
    have := ct_more (f := fun q => decide (so q = 2) && bt (re p) q && !bt (re q) p) (g := fun _ => true) (k := p) (fun _ _ => rfl) (by simp [r1 p hp]) rfl hp
    have e : ct (fun _ => true) 10 = 10 := rfl
    omega
  · omega
theorem phi_pfx {so : Nat → Nat} {re : Nat → Int32} (ok : P.ok) (r1 : ∀ p, p < 10 → bt (re p) p = true) (r2 : ∀ r, r < P.R → ∀ i, 1 ≤ i → i ≤ P.K r → P.kd r i ≤ 2 → bt (re (P.pd r 0)) (P.pd r i) = true) (r3 : ∀ k p b, k < 10 → p < 10 → b < 32 → bt (re p) k = true → bt (re k) b = true → bt (re p) b = true) (r4 : ∀ r, r < P.R → so (P.pd r 0) = 2) (r5 : ∀ r, r < P.R → ∀ i, 1 ≤ i → i ≤ P.K r → P.kd r i = 2 → ¬ bt (re (P.pd r i)) (P.pd r 0) = true) : pfx P (phi so re) := fun h q w ⟨r, hr, e1, i, i1, i2, i3, e2, e3⟩ => by
  have k0 := (ok.2 r hr).2.1
  have h10 := ((ok.2 r hr).2.2 0 (Nat.zero_le _)).2.2.2.2.1 (by omega)
  have q10 := ((ok.2 r hr).2.2 i i2).2.2.2.2.1 i3
  have hs := r4 r hr
  have hE := r2 r hr i i1 i2 i3
  have h5 := r5 r hr i i1 i2
  subst e1 e2
  have w1 : w ≤ 1 := by rw [e3]; split <;> omega
  unfold phi
  rw [if_pos hs]
  by_cases cq : so (P.pd r i) = 2
  · rw [if_pos cq]
    have sub : ∀ x, (decide (so x = 2) && bt (re (P.pd r i)) x && !bt (re x) (P.pd r i)) = true → x < 10 → (decide (so x = 2) && bt (re (P.pd r 0)) x && !bt (re x) (P.pd r 0)) = true := fun x hx x10 => by
      simp only [Bool.and_eq_true, decide_eq_true_iff, Bool.not_eq_true'] at hx ⊢
      refine ⟨⟨hx.1.1, r3 _ _ x q10 h10 (by omega) hE hx.1.2⟩, ?_⟩
      cases hb : bt (re x) (P.pd r 0) with
      | false => rfl
      | true =>
        have := r3 _ x (P.pd r i) h10 x10 (by omega) hb hE
        rw [hx.2] at this
        exact absurd this (by decide)
    have subC : ct (fun q => decide (so q = 2) && bt (re (P.pd r i)) q && !bt (re q) (P.pd r i)) 10 = ct (fun q => (decide (so q = 2) && bt (re (P.pd r i)) q && !bt (re q) (P.pd r i)) && decide (q < 10)) 10 := ct_congr (fun x hx => by simp [hx])
    have mono : ∀ x, ((decide (so x = 2) && bt (re (P.pd r i)) x && !bt (re x) (P.pd r i)) && decide (x < 10)) = true → (decide (so x = 2) && bt (re (P.pd r 0)) x && !bt (re x) (P.pd r 0)) = true := fun x hx => by
      rw [Bool.and_eq_true, decide_eq_true_iff] at hx
      exact sub x hx.1 hx.2
    by_cases cs : bt (re (P.pd r i)) (P.pd r 0) = true
    · have hk : ¬ P.kd r i = 2 := fun z => h5 z cs
      have w0 : w = 0 := by rw [e3, if_neg hk]
      have := ct_monoI mono 10
      omega
    · have cs' : bt (re (P.pd r i)) (P.pd r 0) = false := by simpa using cs
      have := ct_more mono (k := P.pd r i) (by simp [r1 _ q10]) (by simp [cq, hE, cs']) q10
      omega
  · rw [if_neg cq]
    omega
end
