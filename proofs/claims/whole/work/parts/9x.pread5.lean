/-! what is read: entries and rules, on both sides -/
def En : Type := Nat × Nat × Nat × Nat × (Nat → Nat)
def En.mk (k d q w : Nat) (v : Nat → Nat) : En := (k, d, q, w, v)
def En.kd (x : En) : Nat := x.1
def En.pd (x : En) : Nat := x.2.1
def En.pl (x : En) : Nat := x.2.2.1
def En.wd (x : En) : Nat := x.2.2.2.1
def En.tm (x : En) : Nat → Nat := x.2.2.2.2
/-- the terms ahead of entry e -/
def tw_ (X : Nat → En) (e : Nat) : Nat := sm (fun i => (X i).wd) e
def SE1 (x : En) (T e : Nat) (kind place who width term sort predicate firstTerm termMany partPlace mterm : Nat → Int32) : Prop := (x.kd ≤ 5 ∧ x.wd ≤ 3 ∧ (3 ≤ x.kd → x.wd = 2) ∧ (x.kd ≤ 2 → x.pd < 10) ∧ (∀ t, t < x.wd → x.tm t < 38) ∧ x.pl ≤ 480) ∧ (kind e = nI x.kd ∧ place e = nI x.pl ∧ width e = nI x.wd ∧ (x.kd ≤ 2 → who e = nI x.pd) ∧ ∀ t, t < x.wd → term (3 * e + t) = nI (x.tm t)) ∧ (sort e = nI (x.kd - 1) ∧ (x.kd ≤ 2 → predicate e = nI x.pd) ∧ firstTerm e = nI T ∧ termMany e = nI x.wd ∧ partPlace e = nI x.pl ∧ ∀ t, t < x.wd → mterm (T + t) = nI (mtv (x.tm t)))
def SE (X : Nat → En) (n : Nat) (kind place who width term sort predicate firstTerm termMany partPlace mterm : Nat → Int32) : Prop := ∀ e, e < n → SE1 (X e) (tw_ X e) e kind place who width term sort predicate firstTerm termMany partPlace mterm
/-- one entry more -/
def xs (X : Nat → En) (n : Nat) (x : En) : Nat → En := fun e => if e = n then x else X e
theorem xs_lt {X : Nat → En} {n e : Nat} {x : En} (h : e < n) : xs X n x e = X e := if_neg (by omega)
theorem xs_n {X : Nat → En} {n : Nat} {x : En} : xs X n x n = x := if_pos rfl
theorem tw_congr {X Y : Nat → En} {n : Nat} (h : ∀ e, e < n → X e = Y e) : ∀ m, m ≤ n → tw_ X m = tw_ Y m
  | 0, _ => rfl
  | m + 1, hm => by
    show sm _ m + (X m).wd = sm _ m + (Y m).wd
    have := tw_congr h m (by omega)
    unfold tw_ at this
    rw [this, h m (by omega)]
theorem tw_mono {X : Nat → En} : ∀ {m n : Nat}, m ≤ n → tw_ X m ≤ tw_ X n := fun {m n} h => by
  induction n with
  | zero => rw [show m = 0 by omega]; exact Nat.le_refl _
  | succ n ih =>
    by_cases e : m = n + 1
    · rw [e]; exact Nat.le_refl _
    · have := ih (by omega)
      show tw_ X m ≤ sm _ n + (X n).wd
      unfold tw_ at *
      omega
theorem tw_end {X : Nat → En} {e n : Nat} (h : e < n) : tw_ X e + (X e).wd ≤ tw_ X n := tw_mono (X := X) (show e + 1 ≤ n from h)
theorem SE.push {X : Nat → En} {n : Nat} {kind place who width term sort predicate firstTerm termMany partPlace mterm width' term' mterm' : Nat → Int32} (h : SE X n kind place who width term sort predicate firstTerm termMany partPlace mterm) {k d q w : Nat} {x1 x2 : Int32} {v : Nat → Nat} (tw : TW n (tw_ X n) w v width' term' mterm' width term mterm) (hk : k ≤ 5) (hw : w ≤ 3) (hkw : 3 ≤ k → w = 2) (hd : k ≤ 2 → d < 10 ∧ x1 = nI d ∧ x2 = nI d) (hq : q ≤ 480) : SE (xs X n (En.mk k d q w v)) (n + 1) (upd kind n (nI k)) (upd place n (nI q)) (upd who n x1) width' term' (upd sort n (nI (k - 1))) (upd predicate n x2) (upd firstTerm n (nI (tw_ X n))) (upd termMany n (nI w)) (upd partPlace n (nI q)) mterm' := fun e he => by
  obtain ⟨t1, t2, t3, t4, t5⟩ := tw
  have eT : ∀ m, m ≤ n → tw_ (xs X n (En.mk k d q w v)) m = tw_ X m := tw_congr (fun e he => xs_lt he)
  by_cases c : e = n
  · subst c
    rw [xs_n, eT e (Nat.le_refl e)]
    refine ⟨⟨hk, hw, hkw, fun z => (hd z).1, fun t ht => (t5 t ht).1, hq⟩, ⟨pk_us, pk_us, t1, fun z => by rw [pk_us]; exact (hd z).2.1, fun t ht => (t5 t ht).2.1⟩, ⟨pk_us, fun z => by rw [pk_us]; exact (hd z).2.2, pk_us, pk_us, pk_us, fun t ht => (t5 t ht).2.2⟩⟩
  · have hen : e < n := by omega
    rw [xs_lt hen, eT e (by omega)]
    obtain ⟨a, ⟨b1, b2, b3, b4, b5⟩, ⟨c1, c2, c3, c4, c5, c6⟩⟩ := h e hen
    have hT := tw_end (X := X) hen
    have hw3 := a.2.1
    refine ⟨a, ⟨by rw [pk_un c]; exact b1, by rw [pk_un c]; exact b2, by rw [t2 e hen]; exact b3, fun z => by rw [pk_un c]; exact b4 z, fun t ht => by rw [t3 _ (by omega)]; exact b5 t ht⟩, ⟨by rw [pk_un c]; exact c1, fun z => by rw [pk_un c]; exact c2 z, by rw [pk_un c]; exact c3, by rw [pk_un c]; exact c4, by rw [pk_un c]; exact c5, fun t ht => by rw [t4 _ (by omega)]; exact c6 t ht⟩⟩
theorem xs_tw {X : Nat → En} {n : Nat} {k d q w : Nat} {v : Nat → Nat} : tw_ (xs X n (En.mk k d q w v)) (n + 1) = tw_ X n + w := by
  show sm _ n + (xs X n (En.mk k d q w v) n).wd = _
  rw [xs_n]
  have := tw_congr (X := xs X n (En.mk k d q w v)) (Y := X) (n := n) (fun e he => xs_lt he) n (Nat.le_refl n)
  unfold tw_ at this ⊢
  rw [this]
  rfl
section
variable {ch : Nat → Nat} {text tape : Nat → Int32} {len F : Nat}
/-- the parts of a body -/
theorem E_ruleL (hc : CH ch text tape len) (hF : 480 < F) {R : Nat} {firstPart partMany rulePlace : Nat → Int32} {wr f fp : Int32} : ∀ (d i m y nf mf : Nat) (X : Nat → En) (kind place who width term start sort predicate firstTerm termMany partPlace mterm : Nat → Int32), len - i ≤ d → i ≤ len → 2 * m + 1 ≤ i → tw_ X m ≤ i → R + 1 ≤ m → y + 3 ≤ i → d + 1 < nf → d + 2 < mf → SE X m kind place who width term sort predicate firstTerm termMany partPlace mterm →
    (∃ r p, M_Reader_readRule_L67 F text (nI len) nf (nI y) 1 (nI i) wr kind place who width term start (nI m) (nI (R + 1)) = some r ∧ r.2.1 = nI p ∧ p ≤ len ∧ r.2.2.2.2.2.2.2.1 0 = start 0 ∧ ((∃ q, M_Model_ruleText_L90 F tape (nI len) (nI (R + 1)) firstPart partMany rulePlace mf 1 f fp (nI (sk ch len i)) (nI m) sort predicate firstTerm termMany partPlace (nI (tw_ X m)) mterm = some (.inr q) ∧ q.1 = 0 ∧ q.2.1 = 1 ∧ q.2.2.1 = nI p) ∨ ∃ Q, M_Model_ruleText_L90 F tape (nI len) (nI (R + 1)) firstPart partMany rulePlace mf 1 f fp (nI (sk ch len i)) (nI m) sort predicate firstTerm termMany partPlace (nI (tw_ X m)) mterm = some (.inl (f, fp, nI p, Q)) ∧ ¬ (p < len ∧ ch p = 46))) ∨
    (∃ p m' X' kind' place' who' width' term' start' sort' predicate' firstTerm' termMany' partPlace' mterm', M_Reader_readRule_L67 F text (nI len) nf (nI y) 1 (nI i) wr kind place who width term start (nI m) (nI (R + 1)) = some (nI (p + 1), wr, kind', place', who', width', term', start', nI m', nI (R + 1)) ∧ M_Model_ruleText_L90 F tape (nI len) (nI (R + 1)) firstPart partMany rulePlace mf 1 f fp (nI (sk ch len i)) (nI m) sort predicate firstTerm termMany partPlace (nI (tw_ X m)) mterm = some (.inl (f, fp, nI p, nI m', sort', predicate', firstTerm', termMany', partPlace', nI (tw_ X' m'), mterm')) ∧ p < len ∧ ch p = 46 ∧ i ≤ p ∧ m < m' ∧ 2 * m' ≤ p + 1 ∧ tw_ X' m' ≤ p ∧ SE X' m' kind' place' who' width' term' sort' predicate' firstTerm' termMany' partPlace' mterm' ∧ (∀ e, e < m → X' e = X e) ∧ (∀ e, m ≤ e → e < m' → 1 ≤ (X' e).kd) ∧ start' (R + 1) = nI m' ∧ ∀ r, r ≠ R + 1 → start' r = start r) := fun d => by
  induction d with
  | zero =>
    intro i m y nf mf X kind place who width term start sort predicate firstTerm termMany partPlace mterm hd hi h2 hT hR hy hnf hmf hS
    have h480 := hc.1
    obtain ⟨nf, rfl⟩ : ∃ k, nf = k + 1 := ⟨nf - 1, by omega⟩
    obtain ⟨mf, rfl⟩ : ∃ k, mf = k + 1 := ⟨mf - 1, by omega⟩
    have t00 : (0 : Int32) = 0 := rfl
    have t10 : ¬ (1 : Int32) = 0 := by decide
    have y480 : ¬ (480 : Int32) ≤ nI y := nI_ge (a := y) (b := 480) (by omega) (by decide)
    rcases E_part (R := R + 1) (wr := wr) (f := f) (fp := fp) (kind := kind) (place := place) (who := who) (width := width) (term := term) (start := start) (sort := sort) (predicate := predicate) (firstTerm := firstTerm) (termMany := termMany) (partPlace := partPlace) (mterm := mterm) hc hF hi h2 hT hR (by omega) with ⟨r, q, p, g1, g2, g3, g4, g5, g6, g7, g8, g0⟩ | ⟨k, pl, x1, x2, j, w, v, width', term', mterm', g1, g2, g3, g4, g5, g6, g7, g8, g9, g10, g11, g12⟩
    · refine Or.inl ⟨(r.2.1, r.2.2.1, r.2.2.2.1, r.2.2.2.2.1, r.2.2.2.2.2.1, r.2.2.2.2.2.2.1, r.2.2.2.2.2.2.2.1, r.2.2.2.2.2.2.2.2.1, r.2.2.2.2.2.2.2.2.2.1, r.2.2.2.2.2.2.2.2.2.2), p, ?_, g4, g8, g0, Or.inl ⟨(0, q.2.1, q.2.2.1, q.2.2.2.1, nI (R + 1), firstPart, partMany, rulePlace, q.2.2.2.2.1, q.2.2.2.2.2.1, q.2.2.2.2.2.2.1, q.2.2.2.2.2.2.2.1, q.2.2.2.2.2.2.2.2.1, q.2.2.2.2.2.2.2.2.2.1, q.2.2.2.2.2.2.2.2.2.2.1, q.2.2.2.2.2.2.2.2.2.2.2), ?_, rfl, g6, g7⟩⟩
      · unfold M_Reader_readRule_L67
        rw [if_neg y480, if_neg t10, bd_e _ g1, if_pos g3]
      · unfold M_Model_ruleText_L90
        rw [if_neg t10, bd_e _ g2, if_pos g5]
    · have hh := Nat.le_trans g10 g11
      clear g1 g2 g5 g12
      omega
  | succ d ih =>
    intro i m y nf mf X kind place who width term start sort predicate firstTerm termMany partPlace mterm hd hi h2 hT hR hy hnf hmf hS
    have h480 := hc.1
    obtain ⟨nf, rfl⟩ : ∃ k, nf = k + 1 := ⟨nf - 1, by omega⟩
    obtain ⟨mf, rfl⟩ : ∃ k, mf = k + 1 := ⟨mf - 1, by omega⟩
    have t00 : (0 : Int32) = 0 := rfl
    have t10 : ¬ (1 : Int32) = 0 := by decide
    have y480 : ¬ (480 : Int32) ≤ nI y := nI_ge (a := y) (b := 480) (by omega) (by decide)
    rcases E_part (R := R + 1) (wr := wr) (f := f) (fp := fp) (kind := kind) (place := place) (who := who) (width := width) (term := term) (start := start) (sort := sort) (predicate := predicate) (firstTerm := firstTerm) (termMany := termMany) (partPlace := partPlace) (mterm := mterm) hc hF hi h2 hT hR (by omega) with ⟨r, q, p, g1, g2, g3, g4, g5, g6, g7, g8, g0⟩ | ⟨k, pl, x1, x2, j, w, v, width', term', mterm', g1, g2, g3, g4, g5, g6, g7, g8, g9, g10, g11, g12, g13⟩
    · refine Or.inl ⟨(r.2.1, r.2.2.1, r.2.2.2.1, r.2.2.2.2.1, r.2.2.2.2.2.1, r.2.2.2.2.2.2.1, r.2.2.2.2.2.2.2.1, r.2.2.2.2.2.2.2.2.1, r.2.2.2.2.2.2.2.2.2.1, r.2.2.2.2.2.2.2.2.2.2), p, ?_, g4, g8, g0, Or.inl ⟨(0, q.2.1, q.2.2.1, q.2.2.2.1, nI (R + 1), firstPart, partMany, rulePlace, q.2.2.2.2.1, q.2.2.2.2.2.1, q.2.2.2.2.2.2.1, q.2.2.2.2.2.2.2.1, q.2.2.2.2.2.2.2.2.1, q.2.2.2.2.2.2.2.2.2.1, q.2.2.2.2.2.2.2.2.2.2.1, q.2.2.2.2.2.2.2.2.2.2.2), ?_, rfl, g6, g7⟩⟩
      · unfold M_Reader_readRule_L67
        rw [if_neg y480, if_neg t10, bd_e _ g1, if_pos g3]
      · unfold M_Model_ruleText_L90
        rw [if_neg t10, bd_e _ g2, if_pos g5]
    · obtain ⟨dd, hdd⟩ : ∃ d0, k ≤ 2 → d0 < 10 ∧ x1 = nI d0 ∧ x2 = nI d0 := by
        by_cases c : k ≤ 2
        · obtain ⟨d0, h⟩ := g5 c
          exact ⟨d0, fun _ => h⟩
        · exact ⟨0, fun z => absurd z c⟩
      clear g5
      have hS1 := hS.push g13 g4 g7 g6 hdd (show pl ≤ 480 by omega)
      have hsj := sk_len (ch := ch) g11
      have hsg := sk_le (ch := ch) (len := len) j
      have eH := S_here hc (sk ch len j) (by omega)
      have eT : nI (tw_ X m + w) = nI (tw_ (xs X m (En.mk k dd pl w v)) (m + 1)) := by rw [xs_tw]
      have hkx : ∀ e, m ≤ e → e < m + 1 → 1 ≤ (xs X m (En.mk k dd pl w v) e).kd := fun e h1 h2 => by
        rw [show e = m by omega, xs_n]
        exact g3
      by_cases c44 : nx ch len j 44
      · have a44 : M_Reader_accept F (nI j) text (nI len) (44 : Int32) = _ := S_acc1 (k := 44) hc hF g11 (by decide) c44
        have e44 : cr0 ch len (sk ch len j) = (44 : Int32) := (cr0_eq hc (k := 44) (by decide) (by decide)).mpr c44
        have hl := c44.1
        have cstep : M_Reader_readRule_L67 F text (nI len) (nf + 1) (nI y) 1 (nI i) wr kind place who width term start (nI m) (nI (R + 1)) = M_Reader_readRule_L67 F text (nI len) nf (nI (y + 1)) 1 (nI (sk ch len j + 1)) wr (upd kind m (nI k)) (upd place m (nI pl)) (upd who m x1) width' term' (upd start (R + 1) (nI (m + 1))) (nI (m + 1)) (nI (R + 1)) := by
          conv => lhs; unfold M_Reader_readRule_L67
          rw [if_neg y480, if_neg t10, bd_e _ g1, if_neg t10, bd_e _ a44, if_neg t10, lt_e, nI_1]
        have rstep : M_Model_ruleText_L90 F tape (nI len) (nI (R + 1)) firstPart partMany rulePlace (mf + 1) 1 f fp (nI (sk ch len i)) (nI m) sort predicate firstTerm termMany partPlace (nI (tw_ X m)) mterm = M_Model_ruleText_L90 F tape (nI len) (nI (R + 1)) firstPart partMany rulePlace mf 1 f fp (nI (sk ch len (sk ch len j + 1))) (nI (m + 1)) (upd sort m (nI (k - 1))) (upd predicate m x2) (upd firstTerm m (nI (tw_ X m))) (upd termMany m (nI w)) (upd partPlace m (nI pl)) (nI (tw_ (xs X m (En.mk k dd pl w v)) (m + 1))) mterm' := by
          conv => lhs; unfold M_Model_ruleText_L90
          rw [if_neg t10, bd_e _ g2, if_neg t10, bd_e _ eH, if_pos e44, if_neg t10, bd_e _ (S_next hc hF hl), eT]
        rw [cstep, rstep]
        rcases ih (sk ch len j + 1) (m + 1) (y + 1) nf mf (xs X m (En.mk k dd pl w v)) _ _ _ _ _ (upd start (R + 1) (nI (m + 1))) _ _ _ _ _ _ (by omega) (by omega) (by omega) (by rw [xs_tw]; omega) (by omega) (by omega) (by omega) (by omega) hS1 with h | ⟨p, m', X', kind', place', who', width'', term'', start', sort', predicate', firstTerm', termMany', partPlace', mterm'', a1, a2, a3, a4, a5, a6, a7, a8, a9, a10, a11, a12, a13⟩
        · obtain ⟨r0, p0, h1, h2, h3, h4, h5⟩ := h
          exact Or.inl ⟨r0, p0, h1, h2, h3, h4.trans (pk_un (show (0 : Nat) ≠ R + 1 by omega)), h5⟩
        · refine Or.inr ⟨p, m', X', kind', place', who', width'', term'', start', sort', predicate', firstTerm', termMany', partPlace', mterm'', a1, a2, a3, a4, by omega, by omega, a7, a8, a9, fun e he => by rw [a10 e (by omega), xs_lt he], fun e h1 h2 => ?_, a12, fun r hr => by rw [a13 r hr, pk_un hr]⟩
          by_cases c : e = m
          · rw [a10 e (by omega)]
            exact hkx e h1 (by omega)
          · exact a11 e (by omega) h2
      · have a44 : M_Reader_accept F (nI j) text (nI len) (44 : Int32) = _ := S_acc0 (k := 44) hc hF g11 (by decide) c44
        have n44 : ¬ cr0 ch len (sk ch len j) = (44 : Int32) := fun z => c44 ((cr0_eq hc (k := 44) (by decide) (by decide)).mp z)
        obtain ⟨nf, rfl⟩ : ∃ k, nf = k + 1 := ⟨nf - 1, by omega⟩
        obtain ⟨mf, rfl⟩ : ∃ k, mf = k + 1 := ⟨mf - 1, by omega⟩
        have y480b : ¬ (480 : Int32) ≤ nI (y + 1) := nI_ge (a := y + 1) (b := 480) (by omega) (by decide)
        have cend : ∀ (a b : Int32) (K P W W2 T S : Nat → Int32) (N : Int32), M_Reader_readRule_L67 F text (nI len) (nf + 1) (nI (y + 1)) 0 a b K P W W2 T S N (nI (R + 1)) = some (a, b, K, P, W, W2, T, S, N, nI (R + 1)) := fun a b K P W W2 T S N => by
          unfold M_Reader_readRule_L67
          rw [if_neg y480b, if_pos t00]
        have rend : M_Model_ruleText_L90 F tape (nI len) (nI (R + 1)) firstPart partMany rulePlace (mf + 1 + 1) 1 f fp (nI (sk ch len i)) (nI m) sort predicate firstTerm termMany partPlace (nI (tw_ X m)) mterm = some (.inl (f, fp, nI (sk ch len j), nI (m + 1), upd sort m (nI (k - 1)), upd predicate m x2, upd firstTerm m (nI (tw_ X m)), upd termMany m (nI w), upd partPlace m (nI pl), nI (tw_ (xs X m (En.mk k dd pl w v)) (m + 1)), mterm')) := by
          unfold M_Model_ruleText_L90
          rw [if_neg t10, bd_e _ g2, if_neg t10, bd_e _ eH, if_neg n44, if_pos t00, eT]
          unfold M_Model_ruleText_L90
          rw [if_pos t00]
        by_cases c46 : nx ch len j 46
        · have a46 : M_Reader_accept F (nI (sk ch len j)) text (nI len) (46 : Int32) = _ := S_acc1 (k := 46) hc hF hsj (by decide) (nx_sk.mpr c46)
          rw [sk_sk] at a46
          have hl := c46.1
          refine Or.inr ⟨sk ch len j, m + 1, xs X m (En.mk k dd pl w v), _, _, _, _, _, _, _, _, _, _, _, _, ?_, rend, c46.1, c46.2, by omega, by omega, by omega, by rw [xs_tw]; omega, hS1, fun e he => xs_lt he, hkx, pk_us, fun r hr => pk_un hr⟩
          conv => lhs; unfold M_Reader_readRule_L67
          rw [if_neg y480, if_neg t10, bd_e _ g1, if_neg t10, bd_e _ a44, if_pos t00, bd_e _ a46, if_neg t10, lt_e, nI_1, cend]
        · have a46 : M_Reader_accept F (nI (sk ch len j)) text (nI len) (46 : Int32) = _ := S_acc0 (k := 46) hc hF hsj (by decide) (fun z => c46 (nx_sk.mp z))
          rw [sk_sk] at a46
          refine Or.inl ⟨(nI (sk ch len j), nI (sk ch len j), upd kind m (nI k), upd place m (nI pl), upd who m x1, width', term', upd start (R + 1) (nI (m + 1)), nI (m + 1), nI (R + 1)), sk ch len j, ?_, rfl, hsj, (pk_un (show (0 : Nat) ≠ R + 1 by omega) : (upd start (R + 1) (nI (m + 1))) 0 = start 0), Or.inr ⟨_, rend, fun z => c46 z⟩⟩
          conv => lhs; unfold M_Reader_readRule_L67
          rw [if_neg y480, if_neg t10, bd_e _ g1, if_neg t10, bd_e _ a44, if_pos t00, bd_e _ a46, if_pos t00]
          have er : M_Reader_refuse wr (nI (sk ch len j)) = some (0, nI (sk ch len j)) := rfl
          rw [bd_e _ er, lt_e, nI_1]
          exact cend _ _ _ _ _ _ _ _ _
end
/-! rules, and the whole text -/
def ST (X : Nat → En) (s : Nat → Nat) (R n : Nat) (kind place who width term start firstPart partMany rulePlace sort predicate firstTerm termMany partPlace mterm : Nat → Int32) : Prop := SE X n kind place who width term sort predicate firstTerm termMany partPlace mterm ∧ s 0 = 0 ∧ s R = n ∧ R ≤ n ∧ start 0 = 0 ∧ ∀ r, r < R → s r < s (r + 1) ∧ s (r + 1) ≤ n ∧ start (r + 1) = nI (s (r + 1)) ∧ firstPart r = nI (s r) ∧ partMany r = nI (s (r + 1) - s r - 1) ∧ rulePlace r = nI (X (s r)).pl ∧ (X (s r)).kd = 0 ∧ ∀ e, s r < e → e < s (r + 1) → 1 ≤ (X e).kd
section
variable {ch : Nat → Nat} {text tape : Nat → Int32} {len F : Nat}
theorem ST.rule {X X' : Nat → En} {s : Nat → Nat} {R n m : Nat} {kind place who width term start firstPart partMany rulePlace sort predicate firstTerm termMany partPlace mterm kind' place' who' width' term' start' sort' predicate' firstTerm' termMany' partPlace' mterm' : Nat → Int32} (h : ST X s R n kind place who width term start firstPart partMany rulePlace sort predicate firstTerm termMany partPlace mterm) (hS : SE X' m kind' place' who' width' term' sort' predicate' firstTerm' termMany' partPlace' mterm') (hnm : n < m) (hX : ∀ e, e < n → X' e = X e) (h0 : (X' n).kd = 0) (h1 : ∀ e, n < e → e < m → 1 ≤ (X' e).kd) (hs1 : start' (R + 1) = nI m) (hs2 : ∀ r, r ≠ R + 1 → start' r = start r) {q : Nat} (hq : q = (X' n).pl) : ST X' (fun r => if r = R + 1 then m else s r) (R + 1) m kind' place' who' width' term' start' (upd firstPart R (nI n)) (upd partMany R (nI (m - n - 1))) (upd rulePlace R (nI q)) sort' predicate' firstTerm' termMany' partPlace' mterm' := by
  obtain ⟨a1, a2, a3, a4, a5, a6⟩ := h
  refine ⟨hS, (if_neg (by omega)).trans a2, if_pos rfl, by omega, by rw [hs2 0 (by omega)]; exact a5, fun r hr => ?_⟩
  show (if r = R + 1 then m else s r) < (if r + 1 = R + 1 then m else s (r + 1)) ∧ (if r + 1 = R + 1 then m else s (r + 1)) ≤ m ∧ start' (r + 1) = nI (if r + 1 = R + 1 then m else s (r + 1)) ∧ (upd firstPart R (nI n)) r = nI (if r = R + 1 then m else s r) ∧ (upd partMany R (nI (m - n - 1))) r = nI ((if r + 1 = R + 1 then m else s (r + 1)) - (if r = R + 1 then m else s r) - 1) ∧ (upd rulePlace R (nI q)) r = nI (X' (if r = R + 1 then m else s r)).pl ∧ (X' (if r = R + 1 then m else s r)).kd = 0 ∧ ∀ e, (if r = R + 1 then m else s r) < e → e < (if r + 1 = R + 1 then m else s (r + 1)) → 1 ≤ (X' e).kd
  rw [if_neg (show ¬ r = R + 1 by omega)]
  by_cases c : r = R
  · subst c
    rw [if_pos rfl, a3, pk_us, pk_us, pk_us, hq]
    exact ⟨hnm, Nat.le_refl m, hs1, rfl, rfl, rfl, h0, h1⟩
  · rw [if_neg (show ¬ r + 1 = R + 1 by omega), pk_un c, pk_un c, pk_un c]
    obtain ⟨b1, b2, b3, b4, b5, b6, b7, b8⟩ := a6 r (by omega)
    rw [hs2 (r + 1) (by omega), hX (s r) (by omega)]
    exact ⟨b1, by omega, b3, b4, b5, b6, b7, fun e e1 e2 => by rw [hX e (by omega)]; exact b8 e e1 e2⟩
theorem E_rule (hc : CH ch text tape len) (hF : 1000 < F) {i n R : Nat} {X : Nat → En} {s : Nat → Nat} {kind place who width term start firstPart partMany rulePlace sort predicate firstTerm termMany partPlace mterm : Nat → Int32} {f fp : Int32} (hi : i ≤ len) (h2n : 2 * n ≤ i) (hT : tw_ X n ≤ i) (hS : ST X s R n kind place who width term start firstPart partMany rulePlace sort predicate firstTerm termMany partPlace mterm) :
    (∃ r q p, M_Reader_readRule F (nI i) (-1) text (nI len) kind place who width term start (nI n) (nI R) = some r ∧ M_Model_ruleText F tape (nI len) f fp (nI (sk ch len i)) (nI R) firstPart partMany rulePlace (nI n) sort predicate firstTerm termMany partPlace (nI (tw_ X n)) mterm = some q ∧ r.2.1 = nI p ∧ q.1 = 0 ∧ q.2.1 = 1 ∧ q.2.2.1 = nI p ∧ p ≤ len ∧ r.2.2.2.2.2.2.2.1 0 = 0) ∨
    (∃ j m X' s' kind' place' who' width' term' start' firstPart' partMany' rulePlace' sort' predicate' firstTerm' termMany' partPlace' mterm', M_Reader_readRule F (nI i) (-1) text (nI len) kind place who width term start (nI n) (nI R) = some (nI j, -1, kind', place', who', width', term', start', nI m, nI (R + 1)) ∧ M_Model_ruleText F tape (nI len) f fp (nI (sk ch len i)) (nI R) firstPart partMany rulePlace (nI n) sort predicate firstTerm termMany partPlace (nI (tw_ X n)) mterm = some (1, f, fp, nI (sk ch len j), nI (R + 1), firstPart', partMany', rulePlace', nI m, sort', predicate', firstTerm', termMany', partPlace', nI (tw_ X' m), mterm') ∧ i + 2 ≤ j ∧ j ≤ len ∧ 2 * m ≤ j ∧ tw_ X' m ≤ j ∧ ST X' s' (R + 1) m kind' place' who' width' term' start' firstPart' partMany' rulePlace' sort' predicate' firstTerm' termMany' partPlace' mterm') := by
  have h480 := hc.1
  obtain ⟨a1, a2, a3, a4, a5, a6⟩ := id hS
  have t00 : (0 : Int32) = 0 := rfl
  have t10 : ¬ (1 : Int32) = 0 := by decide
  have eR : nI (R + 1) - (1 : Int32) = nI R := nI_pred R
  have hR : R < 250 := by omega
  have hsl := sk_len (ch := ch) hi
  have hsg := sk_le (ch := ch) (len := len) i
  have mb := Eq.refl (M_Model_ruleText F tape (nI len) f fp (nI (sk ch len i)) (nI R) firstPart partMany rulePlace (nI n) sort predicate firstTerm termMany partPlace (nI (tw_ X n)) mterm)
  conv at mb =>
    rhs
    unfold M_Model_ruleText
  rw [gd_n _ hR (by decide), lt_e, gd_n _ hR (by decide), lt_e, lt_e, nI_1, nI_clamp (show R < 2 ^ 31 by omega)] at mb
  have cb := Eq.refl (M_Reader_readRule F (nI i) (-1) text (nI len) kind place who width term start (nI n) (nI R))
  conv at cb =>
    rhs
    unfold M_Reader_readRule
  rcases E_atom (F := F) (k := 0) (R := R) (wr := -1) (f := f) (fp := fp) (kind := kind) (place := place) (who := who) (width := width) (term := term) (start := start) (sort := sort) (predicate := predicate) (firstTerm := firstTerm) (termMany := termMany) (partPlace := partPlace) (mterm := mterm) hc (by omega) hi h2n hT a4 (by decide) (Or.inl rfl) with ⟨r, q, p, g1, g2, g3, g4, g5, g6, g7, g8, g0⟩ | ⟨d, j, w, v, width', term', mterm', g1, g2, g3, g4, g5, g6, g7, g8, g9⟩
  · have g1 : M_Reader_readAtom F (nI i) (-1) text (nI len) kind place who width term start (nI n) (nI R) (0 : Int32) = some r := g1
    have g2 : M_Model_atom F tape (nI len) f fp (nI (sk ch len i)) (nI n) sort predicate firstTerm termMany partPlace (nI (tw_ X n)) mterm (0 : Int32) = some q := g2
    rw [bd_e _ g1, if_pos g3] at cb
    rw [bd_e _ g2, if_pos g5] at mb
    exact Or.inl ⟨_, _, p, cb, mb, g4, rfl, g6, g7, g8, g0.trans a5⟩
  · have g1 : M_Reader_readAtom F (nI i) (-1) text (nI len) kind place who width term start (nI n) (nI R) (0 : Int32) = _ := g1
    have g2 : M_Model_atom F tape (nI len) f fp (nI (sk ch len i)) (nI n) sort predicate firstTerm termMany partPlace (nI (tw_ X n)) mterm (0 : Int32) = _ := g2
    rw [if_pos rfl] at g1
    have hS1 := a1.push (k := 0) (d := d) (q := sk ch len i) g9 (by decide) g4 (fun z => absurd z (by decide)) (fun _ => ⟨g3, rfl, rfl⟩) (show sk ch len i ≤ 480 by omega)
    have st0 : (upd start (R + 1) (nI (n + 1))) 0 = 0 := (pk_un (show (0 : Nat) ≠ R + 1 by omega)).trans a5
    have hsj := sk_len (ch := ch) g7
    have hsgj := sk_le (ch := ch) (len := len) j
    have eH := S_here hc (sk ch len j) (by omega)
    have eT : nI (tw_ X n + w) = nI (tw_ (xs X n (En.mk 0 d (sk ch len i) w v)) (n + 1)) := by rw [xs_tw]
    rw [bd_e _ g1, if_neg t10] at cb
    rw [bd_e _ g2, if_neg t10, bd_e _ eH] at mb
    by_cases c46 : nx ch len j 46
    · have a46 : M_Reader_accept F (nI j) text (nI len) (46 : Int32) = _ := S_acc1 (k := 46) hc (by omega) g7 (by decide) c46
      have e46 : cr0 ch len (sk ch len j) = (46 : Int32) := (cr0_eq hc (k := 46) (by decide) (by decide)).mpr c46
      have n58 : ¬ cr0 ch len (sk ch len j) = (58 : Int32) := by rw [e46]; decide
      have hl := c46.1
      have esub : nI (n + 1) - nI n - (1 : Int32) = nI (n + 1 - n - 1) := by
        rw [pk_sub (by omega)]
        exact pk_sub (b := 1) (by omega)
      rw [bd_e _ a46, if_neg t10] at cb
      rw [if_neg n58, bd_e _ eH, if_pos e46, bd_e _ (S_next (F := F) hc (by omega) hl), eR, gd_n _ hR (by decide), lt_e, gd_n _ hR (by decide), lt_e, nI_clamp (show R < 2 ^ 31 by omega), pk_us, esub, eT] at mb
      refine Or.inr ⟨sk ch len j + 1, n + 1, xs X n (En.mk 0 d (sk ch len i) w v), (fun r => if r = R + 1 then n + 1 else s r), _, _, _, _, _, _, _, _, _, _, _, _, _, _, _, cb, mb, by omega, by omega, by omega, by rw [xs_tw]; omega, ?_⟩
      exact hS.rule hS1 (by omega) (fun e he => xs_lt he) (by rw [xs_n]; rfl) (fun e e1 e2 => by omega) pk_us (fun r hr => pk_un hr) (by rw [xs_n]; rfl)
    · have a46 : M_Reader_accept F (nI j) text (nI len) (46 : Int32) = _ := S_acc0 (k := 46) hc (by omega) g7 (by decide) c46
      have n46 : ¬ cr0 ch len (sk ch len j) = (46 : Int32) := fun z => c46 ((cr0_eq hc (k := 46) (by decide) (by decide)).mp z)
      rw [bd_e _ a46, if_pos t00] at cb
      by_cases c58 : nx ch len j 58
      · have a58 : M_Reader_accept F (nI (sk ch len j)) text (nI len) (58 : Int32) = _ := S_acc1 (k := 58) hc (by omega) hsj (by decide) (nx_sk.mpr c58)
        rw [sk_sk] at a58
        have e58 : cr0 ch len (sk ch len j) = (58 : Int32) := (cr0_eq hc (k := 58) (by decide) (by decide)).mpr c58
        have hl := c58.1
        have eH2 := S_here hc (sk ch len j + 1) (by omega)
        rw [bd_e _ a58, if_neg t10, bd_e _ (S_at hc (sk ch len j + 1) (by omega))] at cb
        rw [if_pos e58, lt_e, nI_1, bd_e _ eH2] at mb
        by_cases c45 : sk ch len j + 1 < len ∧ ch (sk ch len j + 1) = 45
        · have x45 : cc ch len (sk ch len j + 1) = (45 : Int32) := (cc_eq hc (k := 45) (by decide)).mpr c45
          have y45 : cr0 ch len (sk ch len j + 1) = (45 : Int32) := (cr0_eq hc (k := 45) (by decide) (by decide)).mpr c45
          have hl2 := c45.1
          rw [if_pos x45, lt_e, nI_1] at cb
          rw [if_pos y45, bd_e _ (S_next (F := F) hc (by omega) hl2), eT] at mb
          rcases E_ruleL (F := F) (R := R) (firstPart := upd firstPart R (nI n)) (partMany := partMany) (rulePlace := upd rulePlace R (nI (sk ch len i))) (wr := -1) (f := f) (fp := fp) hc (by omega) (len - (sk ch len j + 1 + 1)) (sk ch len j + 1 + 1) (n + 1) 0 F F (xs X n (En.mk 0 d (sk ch len i) w v)) _ _ _ _ _ (upd start (R + 1) (nI (n + 1))) _ _ _ _ _ _ (Nat.le_refl _) (by omega) (by omega) (by rw [xs_tw]; omega) (by omega) (by omega) (by omega) (by omega) hS1 with ⟨r, p, b1, b2, b3, b0, b4⟩ | ⟨p, m', X', kind', place', who', width'', term'', start', sort', predicate', firstTerm', termMany', partPlace', mterm'', b1, b2, b3, b4, b5, b6, b7, b8, b9, b10, b11, b12, b13⟩
          · have b1 : M_Reader_readRule_L67 F text (nI len) F (0 : Int32) 1 (nI (sk ch len j + 1 + 1)) (-1) (upd kind n (nI 0)) _ _ _ _ _ _ _ = some r := b1
            rw [bd_e _ b1] at cb
            rcases b4 with ⟨q, q1, q2, q3, q4⟩ | ⟨Q, q1, q2⟩
            · refine Or.inl ⟨_, q, p, cb, ?_, b2, q2, q3, q4, b3, b0.trans st0⟩
              rw [mb]
              exact bd_e (fun z18 => cs_ z18 _ (fun o => some o)) q1
            · have n46b : ¬ cr0 ch len p = (46 : Int32) := fun z => q2 ((cr0_eq hc (k := 46) (by decide) (by decide)).mp z)
              have q1' := bd_e (fun z18 => cs_ z18 (fun q19 => bd_ (M_Model_here tape (nI len) q19.2.2.1) fun z20 => if z20 = (46 : Int32) then (bd_ (M_Model_next F tape (nI len) q19.2.2.1) fun z21 => gd_ (nI (R + 1) - (1 : Int32)) 250 <| lt_ (((upd firstPart R (nI n)) (nI (R + 1) - (1 : Int32)).toNatClampNeg)) fun v22 => gd_ (nI (R + 1) - (1 : Int32)) 250 <| lt_ (upd partMany (nI (R + 1) - (1 : Int32)).toNatClampNeg ((q19.2.2.2.1 - v22) - (1 : Int32))) fun f23 => some ((1 : Int32), q19.1, q19.2.1, z21, nI (R + 1), upd firstPart R (nI n), f23, upd rulePlace R (nI (sk ch len i)), q19.2.2.2.1, q19.2.2.2.2.1, q19.2.2.2.2.2.1, q19.2.2.2.2.2.2.1, q19.2.2.2.2.2.2.2.1, q19.2.2.2.2.2.2.2.2.1, q19.2.2.2.2.2.2.2.2.2.1, q19.2.2.2.2.2.2.2.2.2.2)) else (bd_ (M_Model_wrong q19.1 q19.2.1 (1 : Int32) q19.2.2.1) fun z24 => gz_ z24.1 <| some (z24.1, z24.2.1, z24.2.2, q19.2.2.1, nI (R + 1), upd firstPart R (nI n), partMany, upd rulePlace R (nI (sk ch len i)), q19.2.2.2.1, q19.2.2.2.2.1, q19.2.2.2.2.2.1, q19.2.2.2.2.2.2.1, q19.2.2.2.2.2.2.2.1, q19.2.2.2.2.2.2.2.2.1, q19.2.2.2.2.2.2.2.2.2.1, q19.2.2.2.2.2.2.2.2.2.2))) (fun o => some o)) q1
              have mb := mb.trans q1'
              have mb : M_Model_ruleText F tape (nI len) f fp (nI (sk ch len i)) (nI R) firstPart partMany rulePlace (nI n) sort predicate firstTerm termMany partPlace (nI (tw_ X n)) mterm = bd_ (M_Model_here tape (nI len) (nI p)) _ := mb
              rw [bd_e _ (S_here hc p (by omega)), if_neg n46b] at mb
              exact Or.inl ⟨_, _, p, cb, mb, b2, rfl, rfl, rfl, b3, b0.trans st0⟩
          · have b1' := bd_e (fun z14 => some (z14.1, z14.2.1, z14.2.2.1, z14.2.2.2.1, z14.2.2.2.2.1, z14.2.2.2.2.2.1, z14.2.2.2.2.2.2.1, z14.2.2.2.2.2.2.2.1, z14.2.2.2.2.2.2.2.2.1, z14.2.2.2.2.2.2.2.2.2)) b1
            have cb := cb.trans b1'
            have e46 : cr0 ch len p = (46 : Int32) := (cr0_eq hc (k := 46) (by decide) (by decide)).mpr ⟨b3, b4⟩
            have q1' := bd_e (fun z18 => cs_ z18 (fun q19 => bd_ (M_Model_here tape (nI len) q19.2.2.1) fun z20 => if z20 = (46 : Int32) then (bd_ (M_Model_next F tape (nI len) q19.2.2.1) fun z21 => gd_ (nI (R + 1) - (1 : Int32)) 250 <| lt_ (((upd firstPart R (nI n)) (nI (R + 1) - (1 : Int32)).toNatClampNeg)) fun v22 => gd_ (nI (R + 1) - (1 : Int32)) 250 <| lt_ (upd partMany (nI (R + 1) - (1 : Int32)).toNatClampNeg ((q19.2.2.2.1 - v22) - (1 : Int32))) fun f23 => some ((1 : Int32), q19.1, q19.2.1, z21, nI (R + 1), upd firstPart R (nI n), f23, upd rulePlace R (nI (sk ch len i)), q19.2.2.2.1, q19.2.2.2.2.1, q19.2.2.2.2.2.1, q19.2.2.2.2.2.2.1, q19.2.2.2.2.2.2.2.1, q19.2.2.2.2.2.2.2.2.1, q19.2.2.2.2.2.2.2.2.2.1, q19.2.2.2.2.2.2.2.2.2.2)) else (bd_ (M_Model_wrong q19.1 q19.2.1 (1 : Int32) q19.2.2.1) fun z24 => gz_ z24.1 <| some (z24.1, z24.2.1, z24.2.2, q19.2.2.1, nI (R + 1), upd firstPart R (nI n), partMany, upd rulePlace R (nI (sk ch len i)), q19.2.2.2.1, q19.2.2.2.2.1, q19.2.2.2.2.2.1, q19.2.2.2.2.2.2.1, q19.2.2.2.2.2.2.2.1, q19.2.2.2.2.2.2.2.2.1, q19.2.2.2.2.2.2.2.2.2.1, q19.2.2.2.2.2.2.2.2.2.2))) (fun o => some o)) b2
            have mb := mb.trans q1'
            have mb : M_Model_ruleText F tape (nI len) f fp (nI (sk ch len i)) (nI R) firstPart partMany rulePlace (nI n) sort predicate firstTerm termMany partPlace (nI (tw_ X n)) mterm = bd_ (M_Model_here tape (nI len) (nI p)) _ := mb
            have esub : nI m' - nI n - (1 : Int32) = nI (m' - n - 1) := by
              rw [pk_sub (by omega)]
              exact pk_sub (b := 1) (by omega)
            rw [bd_e _ (S_here hc p (by omega)), if_pos e46] at mb
            have mb : M_Model_ruleText F tape (nI len) f fp (nI (sk ch len i)) (nI R) firstPart partMany rulePlace (nI n) sort predicate firstTerm termMany partPlace (nI (tw_ X n)) mterm = bd_ (M_Model_next F tape (nI len) (nI p)) _ := mb
            rw [bd_e _ (S_next (F := F) hc (by omega) b3), eR, gd_n _ hR (by decide), lt_e, gd_n _ hR (by decide), lt_e, nI_clamp (show R < 2 ^ 31 by omega), pk_us, esub] at mb
            refine Or.inr ⟨p + 1, m', X', (fun r => if r = R + 1 then m' else s r), kind', place', who', width'', term'', start', _, _, _, sort', predicate', firstTerm', termMany', partPlace', mterm'', cb, mb, by omega, by omega, by omega, by omega, ?_⟩
            exact hS.rule b9 (by omega) (fun e he => by rw [b10 e (by omega), xs_lt he]) (by rw [b10 n (by omega), xs_n]; rfl) (fun e e1 e2 => b11 e (by omega) e2) b12 (fun r hr => by rw [b13 r hr, pk_un hr]) (by rw [b10 n (by omega), xs_n]; rfl)
        · have x45 : ¬ cc ch len (sk ch len j + 1) = (45 : Int32) := fun z => c45 ((cc_eq hc (k := 45) (by decide)).mp z)
          have y45 : ¬ cr0 ch len (sk ch len j + 1) = (45 : Int32) := fun z => c45 ((cr0_eq hc (k := 45) (by decide) (by decide)).mp z)
          rw [if_neg x45] at cb
          rw [if_neg y45] at mb
          exact Or.inl ⟨_, _, sk ch len j + 1, cb, mb, rfl, rfl, rfl, rfl, by omega, st0⟩
      · have a58 : M_Reader_accept F (nI (sk ch len j)) text (nI len) (58 : Int32) = _ := S_acc0 (k := 58) hc (by omega) hsj (by decide) (fun z => c58 (nx_sk.mp z))
        rw [sk_sk] at a58
        have n58 : ¬ cr0 ch len (sk ch len j) = (58 : Int32) := fun z => c58 ((cr0_eq hc (k := 58) (by decide) (by decide)).mp z)
        rw [bd_e _ a58, if_pos t00] at cb
        rw [if_neg n58, bd_e _ eH, if_neg n46] at mb
        exact Or.inl ⟨_, _, sk ch len j, cb, mb, rfl, rfl, rfl, rfl, hsj, st0⟩
end
