set_option maxRecDepth 100000 in
theorem bc12d : ∀ n, n < 4096 → M_Integer_bitCount_0f7a4 (nI n) = some (nI (ct (bt (nI n)) 12)) := by decide +kernel
theorem nI_self (x : Int32) : x = nI x.toBitVec.toNat := Int32.toBitVec_inj.mp (by
  show x.toBitVec = BitVec.ofNat 32 x.toBitVec.toNat
  exact (BitVec.ofNat_toNat (m := 32) x.toBitVec).symm ▸ (BitVec.setWidth_eq x.toBitVec).symm)
theorem S_bc {x : Int32} (h : ∀ b, 12 ≤ b → bt x b = false) : M_Integer_bitCount_0f7a4 x = some (nI (ct (bt x) 12)) := by
  have h1 : x.toBitVec.toNat < 2 ^ 12 := Nat.lt_pow_two_of_testBit _ (fun i hi => h i hi)
  have e := nI_self x
  rw [e]
  exact bc12d _ h1
theorem S_bcx {ra rb : Nat → Int32} (ha : r12 ra) (hb : r12 rb) {i : Nat} (hi : i < 1440) : M_Integer_bitCount_0f7a4 (ra i ^^^ rb i) = some (nI (ct (fun b => bt (ra i) b ^^ bt (rb i) b) 12)) := by
  rw [S_bc (fun b h => by rw [b_xor, ha i hi b h, hb i hi b h]; rfl)]
  refine congrArg some (congrArg nI (ct_congr (fun b _ => b_xor _ _ b)))
theorem S_clear_L {F : Nat} (hF : 144 < F) : ∀ (d j n : Nat) (row count : Nat → Int32), j + d = 10 → d < n → FSok row count → ∃ row' count', M_FactSet_clear_L2 F n (nI j) row count = some (row', count') ∧ FSok row' count' ∧ ∀ q k, q < 10 → k < 1728 → fh row' q k = (fh row q k && decide (q < j))
  | 0, j, n, row, count, hj, hn, h => by
    obtain ⟨n, rfl⟩ : ∃ m, n = m + 1 := ⟨n - 1, by omega⟩
    have : j = 10 := by omega
    subst this
    unfold M_FactSet_clear_L2
    rw [if_pos (by decide +kernel)]
    exact ⟨row, count, rfl, h, fun q k hq hk => by simp [hq]⟩
  | d + 1, j, n, row, count, hj, hn, h => by
    obtain ⟨n, rfl⟩ : ∃ m, n = m + 1 := ⟨n - 1, by omega⟩
    unfold M_FactSet_clear_L2
    obtain ⟨row1, e1, h1, f1⟩ := S_empty (F := F) (show j < 10 by omega) h hF
    rw [if_neg (show ¬ (10 : Int32) ≤ nI j from nI_ge (a := j) (b := 10) (by omega) (by decide)), bd_e _ e1, lt_e, nI_1]
    obtain ⟨row2, count2, e2, h2, f2⟩ := S_clear_L hF d (j + 1) n row1 (upd count j 0) (by omega) (by omega) h1
    refine ⟨row2, count2, e2, h2, fun q k hq hk => ?_⟩
    rw [f2 q k hq hk, f1 q k hk, Bool.and_assoc]
    congr 1
    by_cases e : q = j
    · subst e; simp
    · have : (q < j + 1) ↔ (q < j) := by omega
      simp [e, this]
theorem S_clear {F : Nat} {row count : Nat → Int32} (hF : 144 < F) (h : FSok row count) : ∃ row' count', M_FactSet_clear F row count = some (row', count') ∧ FSok row' count' ∧ ∀ q k, q < 10 → k < 1728 → fh row' q k = false := by
  obtain ⟨row2, count2, e2, h2, f2⟩ := S_clear_L hF 10 0 F row count rfl (by omega) h
  refine ⟨row2, count2, ?_, h2, fun q k hq hk => by rw [f2 q k hq hk]; simp⟩
  unfold M_FactSet_clear
  exact bd_e (fun z3 => some (z3.1, z3.2)) e2
theorem gp_e {α : Type} {c : Prop} [Decidable c] (x : Option α) (h : c) : gp_ c x = x := if_pos h
/-- copied whole: the same rows within their lengths -/
theorem S_copyAll {row count row2 count2 : Nat → Int32} : ∃ row' count', M_FactSet_copyAll row count row2 count2 = some (row', count') ∧ (∀ i, i < 1440 → row' i = row2 i) ∧ ∀ p, p < 10 → count' p = count2 p := by
  refine ⟨va_cpy row2 row 0 0 1440, va_cpy count2 count 0 0 10, ?_, fun i hi => sb_cpy0 hi, fun p hp => sb_cpy0 hp⟩
  unfold M_FactSet_copyAll
  rw [gp_e _ (by decide), lt_e, gp_e _ (by decide), lt_e, show (0 : Int32).toNatClampNeg = 0 from by decide +kernel, show (1440 : Int32).toNatClampNeg = 1440 from by decide +kernel, show (10 : Int32).toNatClampNeg = 10 from by decide +kernel]
theorem fh_same {row row' : Nat → Int32} (h : ∀ i, i < 1440 → row' i = row i) {q k : Nat} (hq : q < 10) (hk : k < 1728) : fh row' q k = fh row q k := by
  unfold fh
  rw [h _ (f_ixlt hq hk)]
theorem FSok.same {row count row' count' : Nat → Int32} (h : FSok row count) (h1 : ∀ i, i < 1440 → row' i = row i) (h2 : ∀ p, p < 10 → count' p = count p) : FSok row' count' := by
  refine ⟨fun i hi b hb => by rw [h1 i hi]; exact h.1 i hi b hb, fun p hp => ?_⟩
  rw [h2 p hp, h.2 p hp]
  exact congrArg nI (ct_congr (fun k hk => (fh_same h1 hp hk).symm))
theorem S_copyOne {row count row2 count2 : Nat → Int32} {p : Nat} (hp : p < 10) (h : FSok row count) (h2 : FSok row2 count2) : ∃ row' count', M_FactSet_copyOne row count row2 count2 (nI p) = some (row', count') ∧ FSok row' count' ∧ ∀ q k, q < 10 → k < 1728 → fh row' q k = if q = p then fh row2 q k else fh row q k := by
  have e1 : nI p * (144 : Int32) = nI (144 * p) := by rw [f_mul, Nat.mul_comm]
  have e3 : (144 : Int32).toNatClampNeg = 144 := by decide +kernel
  have hrow : ∀ i, va_cpy row2 row (144 * p) (144 * p) 144 i = if 144 * p ≤ i ∧ i < 144 * p + 144 then row2 i else row i := by
    intro i
    unfold va_cpy
    by_cases hi : 144 * p ≤ i ∧ i < 144 * p + 144
    · rw [if_pos hi, if_pos hi, show 144 * p + (i - 144 * p) = i by omega]
    · rw [if_neg hi, if_neg hi]
  have hf : ∀ q k, q < 10 → k < 1728 → fh (va_cpy row2 row (144 * p) (144 * p) 144) q k = if q = p then fh row2 q k else fh row q k := by
    intro q k hq hk
    unfold fh
    rw [hrow]
    by_cases e : q = p
    · subst e; rw [if_pos (by omega), if_pos rfl]
    · rw [if_neg (by omega), if_neg e]
  refine ⟨va_cpy row2 row (144 * p) (144 * p) 144, upd count p (count2 p), ?_, ⟨fun i hi b hb => ?_, fun q hq => ?_⟩, hf⟩
  · unfold M_FactSet_copyOne
    rw [e1, nI_clamp (show 144 * p < 2 ^ 31 by omega), e3, gp_e _ ⟨nI_pos (by omega), nI_pos (by omega), by decide, by omega, by omega⟩, lt_e, gd_n _ hp (by decide), gd_n _ hp (by decide), lt_e, nI_clamp (show p < 2 ^ 31 by omega)]
  · rw [hrow]
    split
    · exact h2.1 i hi b hb
    · exact h.1 i hi b hb
  · rw [upd_fn]
    by_cases e : q = p
    · subst e
      rw [if_pos rfl, h2.2 q hq]
      exact congrArg nI (ct_congr (fun k hk => by rw [hf q k hq hk, if_pos rfl]))
    · rw [if_neg e, h.2 q hq]
      exact congrArg nI (ct_congr (fun k hk => by rw [hf q k hq hk, if_neg e]))

theorem ct_tail {f : Nat → Bool} {M N : Nat} (h : M ≤ N) (e : ct f N = ct f M) {n : Nat} (h1 : M ≤ n) (h2 : n < N) : f n = false := by
  have e2 : ct f N = ct f M + ct (fun k => f (M + k)) (N - M) := by
    rw [← ct_add, show M + (N - M) = N by omega]
  have := ct_0 (f := fun k => f (M + k)) (N := N - M) (by omega) (n - M) (by omega)
  rw [show M + (n - M) = n by omega] at this
  exact this
theorem ct_same {f : Nat → Bool} {M N : Nat} (h : M ≤ N) (e : ∀ n, M ≤ n → n < N → f n = false) : ct f N = ct f M := by
  rw [show N = M + (N - M) by omega, ct_add, ct_congr (g := fun _ => false) (fun k hk => e (M + k) (by omega) (by omega)), ct_false]
  rfl
/-- in one of the two alone -/
def fx (ra rb : Nat → Int32) (p n : Nat) : Bool := fh ra p n ^^ fh rb p n
theorem fx_row (ra rb : Nat → Int32) (p a : Nat) : ct (fx ra rb p) (12 * (a + 1)) = ct (fx ra rb p) (12 * a) + ct (fun b => bt (ra (144 * p + a)) b ^^ bt (rb (144 * p + a)) b) 12 := by
  rw [show 12 * (a + 1) = 12 * a + 12 by omega, ct_add]
  refine congrArg _ (ct_congr (fun b hb => ?_))
  unfold fx
  rw [fh_at ra p a b hb, fh_at rb p a b hb]
theorem S_diff_L {F : Nat} {ra ca rb cb : Nat → Int32} (ha : FSok ra ca) (hb : FSok rb cb) {p : Nat} (hp : p < 10) : ∀ (d j n : Nat), j + d = 144 → d < n →
    M_FactSet_differences_L24 F ra rb (nI p) n (nI (144 * p + j)) (nI (fc ra p - ct (fh ra p) (12 * j) + (fc rb p - ct (fh rb p) (12 * j)))) (nI (ct (fx ra rb p) (12 * j))) = some (nI (ct (fx ra rb p) 1728))
  | 0, j, n, hj, hn => by
    obtain ⟨n, rfl⟩ : ∃ m, n = m + 1 := ⟨n - 1, by omega⟩
    have : j = 144 := by omega
    subst this
    unfold M_FactSet_differences_L24
    rw [show (12 * 144 : Nat) = 1728 from rfl, show fc ra p - ct (fh ra p) 1728 + (fc rb p - ct (fh rb p) 1728) = 0 by unfold fc; omega, if_pos (by decide +kernel)]
  | d + 1, j, n, hj, hn => by
    obtain ⟨n, rfl⟩ : ∃ m, n = m + 1 := ⟨n - 1, by omega⟩
    unfold M_FactSet_differences_L24
    have la := ct_mono (fh ra p) (show 12 * j ≤ 1728 by omega)
    have lb := ct_mono (fh rb p) (show 12 * j ≤ 1728 by omega)
    have la2 := ct_mono (fh ra p) (show 12 * (j + 1) ≤ 1728 by omega)
    have lb2 := ct_mono (fh rb p) (show 12 * (j + 1) ≤ 1728 by omega)
    have ma := fc_le ra p
    have mb := fc_le rb p
    by_cases h0 : fc ra p - ct (fh ra p) (12 * j) + (fc rb p - ct (fh rb p) (12 * j)) = 0
    · rw [h0, if_pos (by decide +kernel)]
      refine congrArg some (congrArg nI (ct_same (by omega) (fun k h1 h2 => ?_)).symm)
      unfold fx
      rw [ct_tail (f := fh ra p) (M := 12 * j) (N := 1728) (by omega) (by unfold fc at h0; omega) h1 h2, ct_tail (f := fh rb p) (M := 12 * j) (N := 1728) (by omega) (by unfold fc at h0; omega) h1 h2]
      rfl
    · have hi : 144 * p + j < 1440 := by omega
      rw [if_neg (nI_nle (by omega) (by omega)), nI_1, f_mul, if_neg (nI_ge (a := 144 * p + j) (b := (p + 1) * 144) (by omega) (by omega)), gd_n _ hi (by decide), gd_n _ hi (by decide), lt_e, nI_clamp (show 144 * p + j < 2 ^ 31 by omega), bd_e _ (S_bcx ha.1 hb.1 hi), lt_e, gd_n _ hi (by decide), bd_e _ (S_bc (ha.1 _ hi)), gd_n _ hi (by decide), bd_e _ (S_bc (hb.1 _ hi)), lt_e, lt_e, nI_add, nI_add, nI_1, ← fx_row]
      have ea := fc_row ra p j
      have eb := fc_row rb p j
      rw [pk_sub (by unfold fc at *; omega)]
      rw [show fc ra p - ct (fh ra p) (12 * j) + (fc rb p - ct (fh rb p) (12 * j)) - (ct (bt (ra (144 * p + j))) 12 + ct (bt (rb (144 * p + j))) 12) = fc ra p - ct (fh ra p) (12 * (j + 1)) + (fc rb p - ct (fh rb p) (12 * (j + 1))) by unfold fc at *; omega, show 144 * p + j + 1 = 144 * p + (j + 1) by omega]
      exact S_diff_L ha hb hp d (j + 1) n (by omega) (by omega)
theorem S_diff {F : Nat} {ra ca rb cb : Nat → Int32} (ha : FSok ra ca) (hb : FSok rb cb) {p : Nat} (hp : p < 10) (hF : 144 < F) : M_FactSet_differences F ra ca rb cb (nI p) = some (nI (ct (fx ra rb p) 1728)) := by
  unfold M_FactSet_differences
  rw [gd_n _ hp (by decide), gd_n _ hp (by decide), lt_e, lt_e, nI_clamp (show p < 2 ^ 31 by omega), ha.2 p hp, hb.2 p hp, nI_add, f_mul]
  refine bd_e (fun z10 => some z10) ?_
  have := S_diff_L (F := F) ha hb hp 144 0 F rfl hF
  rw [show 144 * p + 0 = p * 144 by omega] at this
  exact this
