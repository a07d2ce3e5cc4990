/-- the first k puts and removes: alike on both sides, of BASE predicates -/
def JR (kind puts who number stage : Nat → Int32) (k : Nat) : Prop := ∀ i, i < k → ∃ p n b, p < 10 ∧ n < 1728 ∧ kind p = 1 ∧ who i = nI p ∧ number i = nI n ∧ puts i = bI b ∧ stage i = nI (2 * (1728 * p + n) + (if b then 1 else 0))
theorem nar_b (b : Bool) : vp_nar .boolean (bI b) = bI b := by cases b <;> decide +kernel
theorem JR.push {kind puts who number stage : Nat → Int32} {k : Nat} (h : JR kind puts who number stage k) {p n : Nat} {b : Bool} (hp : p < 10) (hn : n < 1728) (hk : kind p = 1) : JR kind (upd puts k (bI b)) (upd who k (nI p)) (upd number k (nI n)) (upd stage k (nI (2 * (1728 * p + n) + (if b then 1 else 0)))) (k + 1) := by
  intro i hi
  by_cases e : i = k
  · subst e
    exact ⟨p, n, b, hp, hn, hk, by rw [pk_us], by rw [pk_us], by rw [pk_us], by rw [pk_us]⟩
  · obtain ⟨p', n', b', h1, h2, h3, h4, h5, h6, h7⟩ := h i (by omega)
    exact ⟨p', n', b', h1, h2, h3, by rw [pk_un e, h4], by rw [pk_un e, h5], by rw [pk_un e, h6], by rw [pk_un e, h7]⟩
theorem JR.less {kind puts who number stage : Nat → Int32} {k j : Nat} (h : JR kind puts who number stage k) (hj : j ≤ k) : JR kind puts who number stage j := fun i hi => h i (by omega)
theorem S_jadd {N : Nat} {puts who number : Nat → Int32} {k : Nat} (hk : k < N) (hN : N < 2 ^ 31) (b : Bool) (x1 x2 : Int32) : M_Journal_add N puts who number (nI k) (bI b) x1 x2 = some (1, upd puts k (bI b), upd who k x1, upd number k x2, nI (k + 1)) := by
  unfold M_Journal_add
  rw [if_pos (show nI k < Int32.ofNat N from nI_lt hk hN), gd_n _ hk hN, lt_e, gd_n _ hk hN, lt_e, gd_n _ hk hN, lt_e, lt_e, nI_clamp (by omega), nar_b, nI_1]
theorem S_jfull {N : Nat} {puts who number : Nat → Int32} (hN : N < 2 ^ 31) (x0 x1 x2 : Int32) : M_Journal_add N puts who number (nI N) x0 x1 x2 = some (0, puts, who, number, nI N) := by
  unfold M_Journal_add
  rw [if_neg (show ¬ nI N < Int32.ofNat N from nI_nlt (Nat.le_refl N) hN)]
theorem f1728 {p n : Nat} (hp : p < 10) (hn : n < 1728) : nI (1728 * p + n) / (1728 : Int32) = nI p := by
  have : nI (1728 * p + n) / nI 1728 = nI ((1728 * p + n) / 1728) := pk_div (by omega) (by decide) (by decide)
  rw [show (1728 * p + n) / 1728 = p by omega] at this
  exact this
theorem d2 (m : Nat) (b : Bool) : (2 : Int32) * nI m + bI b = nI (2 * m + (if b then 1 else 0)) := by
  have : (2 : Int32) * nI m = nI (2 * m) := pk_mul 2 m
  rw [this]
  cases b
  · exact nI_add _ 0
  · exact nI_add _ 1
/-- staging on both sides -/
theorem E_stage {puts who number stage sort arity stratum kind width strat : Nat → Int32} {k : Nat} (hp : PRel sort arity stratum kind width strat) (hk : k ≤ 64) (hj : JR kind puts who number stage k) (b : Bool) (x0 x1 x2 x3 : Int32) :
    ∃ (z1 f r : Int32) (puts' who' number' stage' : Nat → Int32) (k' : Nat), M_Program_number sort arity x0 x1 x2 x3 = some z1 ∧ M_Model_place kind width x0 x1 x2 x3 = some f ∧ (r = 0 ∨ r = 1) ∧
      M_Hall_stage 64 puts who number (nI k) sort (bI b) x0 z1 = some (r, puts', who', number', nI k') ∧ M_Model_stage kind (nI k) stage f (bI b) = some (r, nI k', stage') ∧ k' ≤ 64 ∧ JR kind puts' who' number' stage' k' := by
  rcases E_num hp x0 x1 x2 x3 with ⟨a1, a2⟩ | ⟨p, n, h10, hn, rfl, hkd, a1, a2⟩
  · refine ⟨-1, -1, 0, puts, who, number, stage, k, a1, a2, Or.inl rfl, ?_, ?_, hk, hj⟩
    · unfold M_Hall_stage; rw [if_pos rfl]
    · unfold M_Model_stage; rw [if_pos rfl]
  · obtain ⟨e1, -⟩ := hp p h10
    by_cases hb : kind p = 1
    · rcases Nat.lt_or_ge k 64 with hlt | hge
      · refine ⟨_, _, 1, upd puts k (bI b), upd who k (nI p), upd number k (nI n), upd stage k (nI (2 * (1728 * p + n) + (if b then 1 else 0))), k + 1, a1, a2, Or.inr rfl, ?_, ?_, by omega, hj.push h10 hn hb⟩
        · unfold M_Hall_stage
          rw [if_neg (nI_nm1 (by omega)), bd_e _ (S_sortOf h10), if_pos (by rw [e1, hb]), bd_e _ (S_jadd hlt (by decide) b _ _), if_neg (show ¬ (1 : Int32) = 0 by decide)]
        · unfold M_Model_stage
          rw [if_neg (nI_nm1 (by omega)), f1728 h10 hn, gd_n _ h10 (by decide), lt_e, nI_clamp (show p < 2 ^ 31 by omega), if_pos hb, if_neg (fun z => by have := (nI_eq (a := k) (b := 64) (by omega) (by decide)).mp z; omega), nI_clamp (show k < 2 ^ 31 by omega)]
          cases b
          · rw [if_pos bI_f, gd_n _ hlt (by decide), lt_e, lt_e, nI_1, show (2 : Int32) * nI (1728 * p + n) + (0 : Int32) = nI (2 * (1728 * p + n) + (if false then 1 else 0)) from d2 _ false]
          · rw [if_neg bI_t, gd_n _ hlt (by decide), lt_e, lt_e, nI_1, show (2 : Int32) * nI (1728 * p + n) + (1 : Int32) = nI (2 * (1728 * p + n) + (if true then 1 else 0)) from d2 _ true]
      · have : k = 64 := by omega
        subst this
        refine ⟨_, _, 0, puts, who, number, stage, 64, a1, a2, Or.inl rfl, ?_, ?_, hk, hj⟩
        · unfold M_Hall_stage
          rw [if_neg (nI_nm1 (by omega)), bd_e _ (S_sortOf h10), if_pos (by rw [e1, hb]), bd_e _ (S_jfull (by decide) _ _ _), if_pos rfl]
        · unfold M_Model_stage
          rw [if_neg (nI_nm1 (by omega)), f1728 h10 hn, gd_n _ h10 (by decide), lt_e, nI_clamp (show p < 2 ^ 31 by omega), if_pos hb, if_pos (show nI 64 = (64 : Int32) from rfl)]
    · refine ⟨_, _, 0, puts, who, number, stage, k, a1, a2, Or.inl rfl, ?_, ?_, hk, hj⟩
      · unfold M_Hall_stage
        rw [if_neg (nI_nm1 (by omega)), bd_e _ (S_sortOf h10), if_neg (by rw [e1]; exact hb)]
      · unfold M_Model_stage
        rw [if_neg (nI_nm1 (by omega)), f1728 h10 hn, gd_n _ h10 (by decide), lt_e, nI_clamp (show p < 2 ^ 31 by omega), if_neg hb]
theorem gz_01 {α : Type} {r : Int32} (h : r = 0 ∨ r = 1) (x : Option α) : gz_ r x = x := if_pos h
theorem E_put {puts who number stage sort arity stratum kind width strat : Nat → Int32} {k : Nat} (hp : PRel sort arity stratum kind width strat) (hk : k ≤ 64) (hj : JR kind puts who number stage k) (th x0 x1 x2 x3 : Int32) :
    ∃ (r : Int32) (puts' who' number' stage' : Nat → Int32) (k' : Nat), M_Hall_put 64 puts who number (nI k) sort arity x0 x1 x2 x3 = some (r, puts', who', number', nI k') ∧ M_Model_put th kind width (nI k) stage x0 x1 x2 x3 = some (r, 0, nI k', stage') ∧ k' ≤ 64 ∧ JR kind puts' who' number' stage' k' := by
  obtain ⟨z1, f, r, puts', who', number', stage', k', a1, a2, h01, b1, b2, hk', hj'⟩ := E_stage hp hk hj true x0 x1 x2 x3
  refine ⟨r, puts', who', number', stage', k', ?_, ?_, hk', hj'⟩
  · unfold M_Hall_put
    have b1 : M_Hall_stage 64 puts who number (nI k) sort (1 : Int32) x0 z1 = some (r, puts', who', number', nI k') := b1
    rw [bd_e _ a1, bd_e _ b1, gz_01 h01]
  · unfold M_Model_put
    have b2 : M_Model_stage kind (nI k) stage f (1 : Int32) = some (r, nI k', stage') := b2
    rw [bd_e _ a2, bd_e _ b2, gz_01 h01]
theorem E_remove {puts who number stage sort arity stratum kind width strat : Nat → Int32} {k : Nat} (hp : PRel sort arity stratum kind width strat) (hk : k ≤ 64) (hj : JR kind puts who number stage k) (th x0 x1 x2 x3 : Int32) :
    ∃ (r : Int32) (puts' who' number' stage' : Nat → Int32) (k' : Nat), M_Hall_remove 64 puts who number (nI k) sort arity x0 x1 x2 x3 = some (r, puts', who', number', nI k') ∧ M_Model_remove th kind width (nI k) stage x0 x1 x2 x3 = some (r, 0, nI k', stage') ∧ k' ≤ 64 ∧ JR kind puts' who' number' stage' k' := by
  obtain ⟨z1, f, r, puts', who', number', stage', k', a1, a2, h01, b1, b2, hk', hj'⟩ := E_stage hp hk hj false x0 x1 x2 x3
  refine ⟨r, puts', who', number', stage', k', ?_, ?_, hk', hj'⟩
  · unfold M_Hall_remove
    have b1 : M_Hall_stage 64 puts who number (nI k) sort (0 : Int32) x0 z1 = some (r, puts', who', number', nI k') := b1
    rw [bd_e _ a1, bd_e _ b1, gz_01 h01]
  · unfold M_Model_remove
    have b2 : M_Model_stage kind (nI k) stage f (0 : Int32) = some (r, nI k', stage') := b2
    rw [bd_e _ a2, bd_e _ b2, gz_01 h01]
theorem S_shorten {k j : Nat} (hk : k < 2 ^ 31) (hj : j ≤ k) : M_Journal_shorten (nI k) (nI j) = some (nI j) := by
  unfold M_Journal_shorten
  rw [lt_e, lt_e]
  have e : (if nI j < nI k then nI j else nI k) = nI j := by
    by_cases h : j < k
    · rw [if_pos (nI_lt h hk)]
    · have : j = k := by omega
      subst this
      split <;> rfl
  rw [e]
  by_cases h0 : j = 0
  · subst h0; rfl
  · rw [if_pos (show (0 : Int32) < nI j from nI_lt (a := 0) (by omega) (by omega))]
theorem E_abort {k : Nat} (hk : k < 2 ^ 31) (th : Int32) : ∃ r, M_Hall_abort (nI k) = some (r, nI 0) ∧ M_Model_abort th (nI k) = some (r, 0, nI 0) := by
  refine ⟨nI k, ?_, rfl⟩
  unfold M_Hall_abort
  rw [bd_e _ (show M_Journal_size (nI k) = some (nI k) from rfl), bd_e _ (show M_Journal_shorten (nI k) (0 : Int32) = some (nI 0) from S_shorten hk (Nat.zero_le k))]
theorem E_sync (safe safe2 th : Int32) (k : Nat) : ∃ r, M_Hall_sync safe (nI k) = some (r, nI k) ∧ M_Model_sync th (nI k) safe2 = some (r, 0, nI k) := ⟨nI k, rfl, rfl⟩
