section
variable {ch : Nat → Nat} {text tape : Nat → Int32} {len F : Nat}
theorem E_readL (hc : CH ch text tape len) (hF : 1000 < F) {depends : Nat → Int32} {f fp : Int32} : ∀ (d i y R n nf mf : Nat) (X : Nat → En) (s : Nat → Nat) (kind place who width term start firstPart partMany rulePlace sort predicate firstTerm termMany partPlace mterm : Nat → Int32), len - i ≤ d → i ≤ len → 2 * n ≤ i → tw_ X n ≤ i → 2 * y ≤ i → d + 2 < nf → d + 2 < mf → ST X s R n kind place who width term start firstPart partMany rulePlace sort predicate firstTerm termMany partPlace mterm →
    (∃ r q p, M_Reader_read_L24 F text (nI len) nf (nI y) (nI i) (-1) kind place who width term start (nI n) (nI R) = some r ∧ M_Model_read_L24 F tape (nI len) depends mf f fp (nI (sk ch len i)) (nI R) firstPart partMany rulePlace (nI n) sort predicate firstTerm termMany partPlace (nI (tw_ X n)) mterm = some (.inr q) ∧ r.2.1 = nI p ∧ q.1 = 0 ∧ q.2.1 = 1 ∧ q.2.2.1 = nI p ∧ p ≤ len ∧ r.2.2.2.2.2.2.2.1 0 = 0) ∨
    (∃ a b R' n' X' s' kind' place' who' width' term' start' firstPart' partMany' rulePlace' sort' predicate' firstTerm' termMany' partPlace' mterm', M_Reader_read_L24 F text (nI len) nf (nI y) (nI i) (-1) kind place who width term start (nI n) (nI R) = some (a, -1, kind', place', who', width', term', start', nI n', nI R') ∧ M_Model_read_L24 F tape (nI len) depends mf f fp (nI (sk ch len i)) (nI R) firstPart partMany rulePlace (nI n) sort predicate firstTerm termMany partPlace (nI (tw_ X n)) mterm = some (.inl (f, fp, b, nI R', firstPart', partMany', rulePlace', nI n', sort', predicate', firstTerm', termMany', partPlace', nI (tw_ X' n'), mterm')) ∧ 2 * n' ≤ 480 ∧ tw_ X' n' ≤ 480 ∧ ST X' s' R' n' kind' place' who' width' term' start' firstPart' partMany' rulePlace' sort' predicate' firstTerm' termMany' partPlace' mterm') := fun d => by
  induction d with
  | zero =>
    intro i y R n nf mf X s kind place who width term start firstPart partMany rulePlace sort predicate firstTerm termMany partPlace mterm hd hi h2 hT hy hnf hmf hS
    have h480 := hc.1
    obtain ⟨nf, rfl⟩ : ∃ k, nf = k + 1 := ⟨nf - 1, by omega⟩
    obtain ⟨mf, rfl⟩ : ∃ k, mf = k + 1 := ⟨mf - 1, by omega⟩
    have hsk : sk ch len i = i := by rw [sk_s, if_neg (fun z => by omega)]
    have pk := S_peek (F := F) hc (by omega) hi
    rw [hsk] at pk ⊢
    have ec : cc ch len i = -1 := if_neg (by omega)
    refine Or.inr ⟨nI i, nI i, R, n, X, s, kind, place, who, width, term, start, firstPart, partMany, rulePlace, sort, predicate, firstTerm, termMany, partPlace, mterm, ?_, ?_, by omega, by omega, hS⟩
    · unfold M_Reader_read_L24
      rw [if_neg (show ¬ (480 : Int32) ≤ nI y from nI_ge (a := y) (b := 480) (by omega) (by decide)), if_pos rfl, bd_e _ pk, if_pos ec]
    · unfold M_Model_read_L24
      rw [if_pos (nI_le (by omega) (by omega))]
  | succ d ih =>
    intro i y R n nf mf X s kind place who width term start firstPart partMany rulePlace sort predicate firstTerm termMany partPlace mterm hd hi h2 hT hy hnf hmf hS
    have h480 := hc.1
    obtain ⟨nf, rfl⟩ : ∃ k, nf = k + 1 := ⟨nf - 1, by omega⟩
    obtain ⟨mf, rfl⟩ : ∃ k, mf = k + 1 := ⟨mf - 1, by omega⟩
    have t00 : (0 : Int32) = 0 := rfl
    have t10 : ¬ (1 : Int32) = 0 := by decide
    have hsl := sk_len (ch := ch) hi
    have hsg := sk_le (ch := ch) (len := len) i
    have hss := sk_sk (ch := ch) (len := len) i
    have pk := S_peek (F := F) hc (by omega) hi
    have y480 : ¬ (480 : Int32) ≤ nI y := nI_ge (a := y) (b := 480) (by omega) (by decide)
    by_cases ce : sk ch len i < len
    · have ec : ¬ cc ch len (sk ch len i) = -1 := by
        unfold cc
        rw [if_pos ce]
        exact nI_nm1 (by have := (hc.2 _ ce).1.2; omega)
      have er := E_rule (F := F) (i := sk ch len i) (f := f) (fp := fp) hc hF hsl (by omega) (show tw_ X n ≤ sk ch len i by omega) hS
      rw [hss] at er
      rcases er with ⟨r, q, p, g1, g2, g3, g4, g5, g6, g7, g0⟩ | ⟨j, m, X', s', kind', place', who', width', term', start', firstPart', partMany', rulePlace', sort', predicate', firstTerm', termMany', partPlace', mterm', g1, g2, g3, g4, g5, g6, g7⟩
      · obtain ⟨nf, rfl⟩ : ∃ k, nf = k + 1 := ⟨nf - 1, by omega⟩
        refine Or.inl ⟨(r.1, r.2.1, r.2.2.1, r.2.2.2.1, r.2.2.2.2.1, r.2.2.2.2.2.1, r.2.2.2.2.2.2.1, r.2.2.2.2.2.2.2.1, r.2.2.2.2.2.2.2.2.1, r.2.2.2.2.2.2.2.2.2), (0, q.2.1, q.2.2.1, q.2.2.2.1, q.2.2.2.2.1, q.2.2.2.2.2.1, q.2.2.2.2.2.2.1, q.2.2.2.2.2.2.2.1, q.2.2.2.2.2.2.2.2.1, q.2.2.2.2.2.2.2.2.2.1, q.2.2.2.2.2.2.2.2.2.2.1, q.2.2.2.2.2.2.2.2.2.2.2.1, q.2.2.2.2.2.2.2.2.2.2.2.2.1, q.2.2.2.2.2.2.2.2.2.2.2.2.2.1, q.2.2.2.2.2.2.2.2.2.2.2.2.2.2.1, q.2.2.2.2.2.2.2.2.2.2.2.2.2.2.2, depends), p, ?_, ?_, g3, rfl, g5, g6, g7, g0⟩
        · unfold M_Reader_read_L24
          rw [if_neg y480, if_pos rfl, bd_e _ pk, if_neg ec, bd_e _ g1, lt_e, nI_1]
          unfold M_Reader_read_L24
          rw [if_neg (show ¬ (480 : Int32) ≤ nI (y + 1) from nI_ge (a := y + 1) (b := 480) (by omega) (by decide)), if_neg (show ¬ r.2.1 = (-1 : Int32) by rw [g3]; exact nI_nm1 (by omega))]
        · unfold M_Model_read_L24
          rw [if_neg (nI_ge ce (by omega)), bd_e _ g2, if_pos g4]
      · have cstep : M_Reader_read_L24 F text (nI len) (nf + 1) (nI y) (nI i) (-1) kind place who width term start (nI n) (nI R) = M_Reader_read_L24 F text (nI len) nf (nI (y + 1)) (nI j) (-1) kind' place' who' width' term' start' (nI m) (nI (R + 1)) := by
          conv => lhs; unfold M_Reader_read_L24
          rw [if_neg y480, if_pos rfl, bd_e _ pk, if_neg ec, bd_e _ g1, lt_e, nI_1]
        have rstep : M_Model_read_L24 F tape (nI len) depends (mf + 1) f fp (nI (sk ch len i)) (nI R) firstPart partMany rulePlace (nI n) sort predicate firstTerm termMany partPlace (nI (tw_ X n)) mterm = M_Model_read_L24 F tape (nI len) depends mf f fp (nI (sk ch len j)) (nI (R + 1)) firstPart' partMany' rulePlace' (nI m) sort' predicate' firstTerm' termMany' partPlace' (nI (tw_ X' m)) mterm' := by
          conv => lhs; unfold M_Model_read_L24
          rw [if_neg (nI_ge ce (by omega)), bd_e _ g2, if_neg t10]
        rw [cstep, rstep]
        exact ih j (y + 1) (R + 1) m nf mf X' s' _ _ _ _ _ _ _ _ _ _ _ _ _ _ _ (by omega) g4 g5 g6 (by omega) (by omega) (by omega) g7
    · have ec : cc ch len (sk ch len i) = -1 := if_neg ce
      refine Or.inr ⟨nI (sk ch len i), nI (sk ch len i), R, n, X, s, kind, place, who, width, term, start, firstPart, partMany, rulePlace, sort, predicate, firstTerm, termMany, partPlace, mterm, ?_, ?_, by omega, by omega, hS⟩
      · unfold M_Reader_read_L24
        rw [if_neg y480, if_pos rfl, bd_e _ pk, if_pos ec]
      · unfold M_Model_read_L24
        rw [if_pos (nI_le (by omega) (by omega))]
end
