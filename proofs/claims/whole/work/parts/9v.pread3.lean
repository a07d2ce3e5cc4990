/-! an atom, alike on both sides -/
section
variable {ch : Nat → Nat} {text tape : Nat → Int32} {len F : Nat}
/-- w terms v of the entry in work, n -/
def TW (n T w : Nat) (v : Nat → Nat) (width term mterm width0 term0 mterm0 : Nat → Int32) : Prop := width n = nI w ∧ (∀ e, e < n → width e = width0 e) ∧ (∀ x, x < 3 * n → term x = term0 x) ∧ (∀ x, x < T → mterm x = mterm0 x) ∧ ∀ u, u < w → v u < 38 ∧ term (3 * n + u) = nI (v u) ∧ mterm (T + u) = nI (mtv (v u))
theorem TW.push {n T w x : Nat} {v : Nat → Nat} {width term mterm width0 term0 mterm0 : Nat → Int32} (h : TW n T w v width term mterm width0 term0 mterm0) (hx : x < 38) : TW n T (w + 1) (fun u => if u = w then x else v u) (upd width n (nI (w + 1))) (upd term (3 * n + w) (nI x)) (upd mterm (T + w) (nI (mtv x))) width0 term0 mterm0 := by
  obtain ⟨h1, h2, h3, h4, h5⟩ := h
  refine ⟨pk_us, fun e he => by rw [pk_un (by omega)]; exact h2 e he, fun y hy => by rw [pk_un (by omega)]; exact h3 y hy, fun y hy => by rw [pk_un (by omega)]; exact h4 y hy, fun u hu => ?_⟩
  show (if u = w then x else v u) < 38 ∧ _ = nI (if u = w then x else v u) ∧ _ = nI (mtv (if u = w then x else v u))
  by_cases e : u = w
  · subst e
    rw [if_pos rfl, pk_us, pk_us]
    exact ⟨hx, rfl, rfl⟩
  · rw [if_neg e, pk_un (by omega), pk_un (by omega)]
    exact h5 u (by omega)
theorem E_atomL (hc : CH ch text tape len) (hF : 480 < F) {n T R : Nat} {kind place who start sort predicate firstTerm termMany partPlace : Nat → Int32} {wr f fp : Int32} {width0 term0 mterm0 : Nat → Int32} (hn : n < 240) (hft : firstTerm n = nI T) : ∀ (dd t i nf mf : Nat) (v : Nat → Nat) (width term mterm : Nat → Int32), t + dd + 1 = 3 → i ≤ len → T + t ≤ i → dd + 1 < nf → dd + 2 < mf → TW n T t v width term mterm width0 term0 mterm0 →
    (∃ r q p, M_Reader_readAtom_L65 F text (nI len) kind place who start (nI (n + 1)) (nI R) nf (nI (t + 1)) (nI i) wr width term = some (.inr r) ∧ M_Model_atom_L51 F tape (nI len) (nI (n + 1)) sort predicate firstTerm termMany partPlace mf 1 f fp (nI (sk ch len i)) (nI (T + t)) mterm = some (.inr q) ∧ r.1 = 0 ∧ r.2.2.1 = nI p ∧ q.1 = 0 ∧ q.2.1 = 1 ∧ q.2.2.1 = nI p ∧ p ≤ len ∧ r.2.2.2.2.2.2.2.2.1 = start) ∨
    (∃ p width' term' T' mterm', M_Reader_readAtom_L65 F text (nI len) kind place who start (nI (n + 1)) (nI R) nf (nI (t + 1)) (nI i) wr width term = some (.inl (nI p, wr, width', term')) ∧ M_Model_atom_L51 F tape (nI len) (nI (n + 1)) sort predicate firstTerm termMany partPlace mf 1 f fp (nI (sk ch len i)) (nI (T + t)) mterm = some (.inl (f, fp, nI p, T', mterm')) ∧ ¬ (p < len ∧ ch p = 41) ∧ p ≤ len) ∨
    (∃ p w v' width' term' mterm', M_Reader_readAtom_L65 F text (nI len) kind place who start (nI (n + 1)) (nI R) nf (nI (t + 1)) (nI i) wr width term = some (.inr (1, nI (p + 1), wr, kind, place, who, width', term', start, nI (n + 1), nI R)) ∧ M_Model_atom_L51 F tape (nI len) (nI (n + 1)) sort predicate firstTerm termMany partPlace mf 1 f fp (nI (sk ch len i)) (nI (T + t)) mterm = some (.inl (f, fp, nI p, nI (T + w), mterm')) ∧ p < len ∧ ch p = 41 ∧ i ≤ p ∧ T + w ≤ p ∧ w ≤ 3 ∧ TW n T w v' width' term' mterm' width0 term0 mterm0)
  | dd, t, i, nf, mf, v, width, term, mterm, ht, hi, hTi, hnf, hmf, tw => by
    obtain ⟨nf, rfl⟩ : ∃ k, nf = k + 1 := ⟨nf - 1, by omega⟩
    obtain ⟨mf, rfl⟩ : ∃ k, mf = k + 1 := ⟨mf - 1, by omega⟩
    have h480 := hc.1
    have ep : nI (n + 1) - (1 : Int32) = nI n := nI_pred n
    have y3 : ¬ (3 : Int32) < nI (t + 1) := nI_nlt (a := 3) (b := t + 1) (by omega) (by omega)
    have t00 : (0 : Int32) = 0 := rfl
    have t10 : ¬ (1 : Int32) = 0 := by decide
    -- the reference's loop ends
    have rend : ∀ (x : Int32) (a : Int32) (T' : Int32) (mt : Nat → Int32) (k : Nat), M_Model_atom_L51 F tape (nI len) (nI (n + 1)) sort predicate firstTerm termMany partPlace (k + 1) 0 f fp a T' mt = some (.inl (f, fp, a, T', mt)) := fun x a T' mt k => by
      unfold M_Model_atom_L51
      rw [if_pos t00]
    rcases E_term (wr := wr) (f := f) (fp := fp) (mterm := mterm) hc hF hi hn (show t < 3 by omega) tw.1 hTi with ⟨p, a, b, c, d, e1, e2, hp⟩ | ⟨x, j, hx, hj, hjl, hT4, e1, e2⟩
    · refine Or.inl ⟨(0, a, nI p, kind, place, who, width, term, start, nI (n + 1), nI R), (0, 1, nI p, b, nI (n + 1), sort, predicate, firstTerm, termMany, partPlace, c, d), p, ?_, ?_, rfl, rfl, rfl, rfl, rfl, hp, rfl⟩
      · unfold M_Reader_readAtom_L65
        rw [if_neg y3, bd_e _ e1, if_pos t00]
      · unfold M_Model_atom_L51
        rw [if_neg t10, bd_e _ e2, if_pos t00]
    · have tw1 := tw.push hx
      have hsj := sk_len (ch := ch) hjl
      have hsg := sk_le (ch := ch) (len := len) i
      have hsg2 := sk_le (ch := ch) (len := len) j
      have eH := S_here hc (sk ch len j) (by omega)
      by_cases c41 : nx ch len j 41
      · -- the end of the atom
        refine Or.inr (Or.inr ⟨sk ch len j, t + 1, _, _, _, _, ?_, ?_, c41.1, c41.2, by omega, by omega, by omega, tw1⟩)
        · have a41 : M_Reader_accept F (nI j) text (nI len) (41 : Int32) = _ := S_acc1 (k := 41) hc hF hjl (by decide) c41
          unfold M_Reader_readAtom_L65
          rw [if_neg y3, bd_e _ e1, if_neg t10, bd_e _ a41, if_neg t10]
        · obtain ⟨mf, rfl⟩ : ∃ k, mf = k + 1 := ⟨mf - 1, by omega⟩
          have e44 : ¬ cr0 ch len (sk ch len j) = (44 : Int32) := fun z => by
            have := (cr0_eq hc (k := 44) (by decide) (by decide)).mp z
            have := c41.2
            omega
          unfold M_Model_atom_L51
          rw [if_neg t10, bd_e _ e2, if_neg t10, bd_e _ eH, if_neg e44, if_pos t00, Nat.add_assoc]
          exact rend 0 _ _ _ _
      · have ac : M_Reader_accept F (nI j) text (nI len) (41 : Int32) = _ := S_acc0 (k := 41) hc hF hjl (by decide) c41
        by_cases c44 : nx ch len j 44
        · have e44 : cr0 ch len (sk ch len j) = (44 : Int32) := (cr0_eq hc (k := 44) (by decide) (by decide)).mpr c44
          have esub : nI (T + t + 1) - nI T = nI (t + 1) := by
            rw [pk_sub (by omega)]
            exact congrArg nI (by omega)
          cases dd with
          | zero =>
            have t2 : t = 2 := by omega
            subst t2
            refine Or.inr (Or.inl ⟨sk ch len j, upd width n (nI (2 + 1)), upd term (3 * n + 2) (nI x), nI (T + 2 + 1), upd mterm (T + 2) (nI (mtv x)), ?_, ?_, fun z => c41 z, hsj⟩)
            · unfold M_Reader_readAtom_L65
              rw [if_neg y3, bd_e _ e1, if_neg t10, bd_e _ ac, if_pos t00, if_pos (show nI (2 + 1) = (3 : Int32) from rfl)]
            · obtain ⟨mf, rfl⟩ : ∃ k, mf = k + 1 := ⟨mf - 1, by omega⟩
              unfold M_Model_atom_L51
              rw [if_neg t10, bd_e _ e2, if_neg t10, bd_e _ eH, if_pos e44, ep, gd_n _ (show n < 260 by omega) (by decide), lt_e, nI_clamp (show n < 2 ^ 31 by omega), hft, esub, if_pos (show (3 : Int32) ≤ nI (2 + 1) by decide +kernel), if_pos t00]
              exact rend 0 _ _ _ _
          | succ dd =>
            have hs1 : sk ch len j + 1 ≤ len := by have := c44.1; omega
            have ih := E_atomL (R := R) (kind := kind) (place := place) (who := who) (start := start) (sort := sort) (predicate := predicate) (termMany := termMany) (partPlace := partPlace) (wr := wr) (f := f) (fp := fp) hc hF hn hft dd (t + 1) (sk ch len j + 1) nf mf _ _ _ _ (by omega) hs1 (by omega) (by omega) (by omega) tw1
            have ec : M_Reader_readAtom_L65 F text (nI len) kind place who start (nI (n + 1)) (nI R) (nf + 1) (nI (t + 1)) (nI i) wr width term = M_Reader_readAtom_L65 F text (nI len) kind place who start (nI (n + 1)) (nI R) nf (nI (t + 1 + 1)) (nI (sk ch len j + 1)) wr (upd width n (nI (t + 1))) (upd term (3 * n + t) (nI x)) := by
              conv => lhs; unfold M_Reader_readAtom_L65
              rw [if_neg y3, bd_e _ e1, if_neg t10, bd_e _ ac, if_pos t00, if_neg (show ¬ nI (t + 1) = (3 : Int32) from fun z => by have := (nI_eq (a := t + 1) (b := 3) (by omega) (by decide)).mp z; omega)]
              have ac2 : M_Reader_accept F (nI (sk ch len j)) text (nI len) (44 : Int32) = _ := S_acc1 (k := 44) hc hF (i := sk ch len j) hsj (by decide) (nx_sk.mpr c44)
              rw [sk_sk] at ac2
              rw [bd_e _ ac2, if_neg t10, lt_e, nI_1]
            have er : M_Model_atom_L51 F tape (nI len) (nI (n + 1)) sort predicate firstTerm termMany partPlace (mf + 1) 1 f fp (nI (sk ch len i)) (nI (T + t)) mterm = M_Model_atom_L51 F tape (nI len) (nI (n + 1)) sort predicate firstTerm termMany partPlace mf 1 f fp (nI (sk ch len (sk ch len j + 1))) (nI (T + (t + 1))) (upd mterm (T + t) (nI (mtv x))) := by
              conv => lhs; unfold M_Model_atom_L51
              rw [if_neg t10, bd_e _ e2, if_neg t10, bd_e _ eH, if_pos e44, ep, gd_n _ (show n < 260 by omega) (by decide), lt_e, nI_clamp (show n < 2 ^ 31 by omega), hft, esub, if_neg (show ¬ (3 : Int32) ≤ nI (t + 1) from nI_ge (a := t + 1) (b := 3) (by omega) (by decide)), if_neg t10, bd_e _ (S_next hc hF c44.1), Nat.add_assoc]
            rw [ec, er]
            rcases ih with h | h | ⟨p, w, v', width', term', mterm', g1, g2, g3, g4, g5, g6, g7, g8⟩
            · exact Or.inl h
            · exact Or.inr (Or.inl h)
            · exact Or.inr (Or.inr ⟨p, w, v', width', term', mterm', g1, g2, g3, g4, by omega, g6, g7, g8⟩)
        · have e44 : ¬ cr0 ch len (sk ch len j) = (44 : Int32) := fun z => c44 ((cr0_eq hc (k := 44) (by decide) (by decide)).mp z)
          refine Or.inr (Or.inl ⟨sk ch len j, upd width n (nI (t + 1)), upd term (3 * n + t) (nI x), nI (T + t + 1), upd mterm (T + t) (nI (mtv x)), ?_, ?_, fun z => c41 z, hsj⟩)
          · unfold M_Reader_readAtom_L65
            rw [if_neg y3, bd_e _ e1, if_neg t10, bd_e _ ac, if_pos t00]
            by_cases c3 : nI (t + 1) = (3 : Int32)
            · rw [if_pos c3]
            · have ac2 : M_Reader_accept F (nI (sk ch len j)) text (nI len) (44 : Int32) = _ := S_acc0 (k := 44) hc hF (i := sk ch len j) hsj (by decide) (fun z => c44 (nx_sk.mp z))
              rw [sk_sk] at ac2
              rw [if_neg c3, bd_e _ ac2, if_pos t00]
          · obtain ⟨mf, rfl⟩ : ∃ k, mf = k + 1 := ⟨mf - 1, by omega⟩
            unfold M_Model_atom_L51
            rw [if_neg t10, bd_e _ e2, if_neg t10, bd_e _ eH, if_neg e44, if_pos t00]
            exact rend 0 _ _ _ _
theorem S_addEntry {kind place who width start : Nat → Int32} {n R k : Nat} {x1 : Int32} {q : Nat} (hn : n < 240) (hR : R < 240) (hk : k < 2 ^ 31) : M_Program_addEntry kind place who width start (nI n) (nI R) (nI k) x1 (nI q) = some (upd kind n (nI k), upd place n (nI q), upd who n x1, upd width n 0, upd start (if k = 0 then R + 1 else R) (nI (n + 1)), nI (n + 1), nI (if k = 0 then R + 1 else R)) := by
  unfold M_Program_addEntry
  rw [if_pos (show nI n < (240 : Int32) from nI_lt (b := 240) hn (by decide)), gd_n _ hn (by decide), lt_e, gd_n _ hn (by decide), lt_e, gd_n _ hn (by decide), lt_e, gd_n _ hn (by decide), lt_e, nI_clamp (show n < 2 ^ 31 by omega)]
  by_cases c : k = 0
  · rw [if_pos (show nI k = (0 : Int32) by rw [c]; rfl), lt_e, lt_e, nI_1, nI_1, gd_n _ (show R + 1 < 241 by omega) (by decide), lt_e, nI_clamp (show R + 1 < 2 ^ 31 by omega), if_pos c]
  · rw [if_neg (show ¬ nI k = (0 : Int32) from fun z => c ((nI_eq (b := 0) hk (by decide)).mp z)), lt_e, nI_1, gd_n _ (show R < 241 by omega) (by decide), lt_e, nI_clamp (show R < 2 ^ 31 by omega), if_neg c]
theorem S_begin {sort predicate firstTerm partPlace : Nat → Int32} {n T q : Nat} {x0 x1 : Int32} (hn : n < 260) : M_Model_beginPart (nI q) (nI n) sort predicate firstTerm partPlace (nI T) x0 x1 = some (nI (n + 1), upd sort n x0, upd predicate n x1, upd firstTerm n (nI T), upd partPlace n (nI q)) := by
  unfold M_Model_beginPart
  rw [gd_n _ hn (by decide), lt_e, gd_n _ hn (by decide), lt_e, gd_n _ hn (by decide), lt_e, gd_n _ hn (by decide), lt_e, lt_e, nI_1, nI_clamp (show n < 2 ^ 31 by omega)]
theorem S_endPart {firstTerm termMany : Nat → Int32} {n T w : Nat} (hn : n < 260) (hf : firstTerm n = nI T) : M_Model_endPart (nI (n + 1)) firstTerm termMany (nI (T + w)) = some (upd termMany n (nI w)) := by
  have e : nI (n + 1) - (1 : Int32) = nI n := nI_pred n
  have e2 : nI (T + w) - nI T = nI w := by
    rw [pk_sub (by omega)]
    exact congrArg nI (by omega)
  unfold M_Model_endPart
  rw [e, gd_n _ hn (by decide), lt_e, gd_n _ hn (by decide), lt_e, nI_clamp (show n < 2 ^ 31 by omega), hf, e2]
theorem E_atom (hc : CH ch text tape len) (hF : 480 < F) {i n T R k : Nat} {kind place who width term start sort predicate firstTerm termMany partPlace mterm : Nat → Int32} {wr f fp : Int32} (hi : i ≤ len) (h2n : 2 * n ≤ i) (hTi : T ≤ i) (hR : R ≤ n) (hk : k ≤ 2) (hR1 : k = 0 ∨ 1 ≤ R) :
    (∃ r q p, M_Reader_readAtom F (nI i) wr text (nI len) kind place who width term start (nI n) (nI R) (nI k) = some r ∧ M_Model_atom F tape (nI len) f fp (nI (sk ch len i)) (nI n) sort predicate firstTerm termMany partPlace (nI T) mterm (nI (k - 1)) = some q ∧ r.1 = 0 ∧ r.2.2.1 = nI p ∧ q.1 = 0 ∧ q.2.1 = 1 ∧ q.2.2.1 = nI p ∧ p ≤ len ∧ r.2.2.2.2.2.2.2.2.1 0 = start 0) ∨
    (∃ d j w v width' term' mterm', M_Reader_readAtom F (nI i) wr text (nI len) kind place who width term start (nI n) (nI R) (nI k) = some (1, nI j, wr, upd kind n (nI k), upd place n (nI (sk ch len i)), upd who n (nI d), width', term', upd start (if k = 0 then R + 1 else R) (nI (n + 1)), nI (n + 1), nI (if k = 0 then R + 1 else R)) ∧ M_Model_atom F tape (nI len) f fp (nI (sk ch len i)) (nI n) sort predicate firstTerm termMany partPlace (nI T) mterm (nI (k - 1)) = some (1, f, fp, nI (sk ch len j), nI (n + 1), upd sort n (nI (k - 1)), upd predicate n (nI d), upd firstTerm n (nI T), upd termMany n (nI w), upd partPlace n (nI (sk ch len i)), nI (T + w), mterm') ∧ d < 10 ∧ w ≤ 3 ∧ n < 240 ∧ sk ch len i + 1 ≤ j ∧ j ≤ len ∧ T + w ≤ j ∧ TW n T w v width' term' mterm' width term mterm) := by
  have h480 := hc.1
  have hsl := sk_len (ch := ch) hi
  have hsg := sk_le (ch := ch) (len := len) i
  have pk := S_peek hc hF hi
  have eh := S_here hc (sk ch len i) (by omega)
  generalize hq : sk ch len i = q at *
  have t00 : (0 : Int32) = 0 := rfl
  have t10 : ¬ (1 : Int32) = 0 := by decide
  have st0 : (upd start (if k = 0 then R + 1 else R) (nI (n + 1))) 0 = start 0 := pk_un (by split <;> omega)
  by_cases cp : q < len ∧ 97 ≤ ch q ∧ ch q ≤ 106
  · obtain ⟨c1, c2, c3⟩ := cp
    have ec : cc ch len q = nI (ch q) := if_pos c1
    have er : cr0 ch len q = nI (ch q) := if_pos c1
    rw [ec] at pk
    rw [er] at eh
    have ip : M_Model_isPredicate (nI (ch q)) = some 1 := by
      unfold M_Model_isPredicate
      rw [if_neg (show ¬ nI (ch q) < (97 : Int32) from nI_nlt (b := 97) (by omega) (by omega)), if_neg (show ¬ (106 : Int32) < nI (ch q) from nI_nlt (a := 106) (b := ch q) (by omega) (by decide))]
    have ed : nI (ch q) - (97 : Int32) = nI (ch q - 97) := pk_sub (b := 97) (by omega)
    have hn : n < 240 := by omega
    have ea := S_addEntry (kind := kind) (place := place) (who := who) (width := width) (start := start) (R := R) (k := k) (x1 := nI (ch q - 97)) (q := q) hn (by omega) (by omega)
    have eb := S_begin (sort := sort) (predicate := predicate) (firstTerm := firstTerm) (partPlace := partPlace) (T := T) (q := q) (x0 := nI (k - 1)) (x1 := nI (ch q - 97)) (show n < 260 by omega)
    have en := S_next hc hF c1
    have hq1 : q + 1 ≤ len := by omega
    have hsq := sk_len (ch := ch) hq1
    have hsgq := sk_le (ch := ch) (len := len) (q + 1)
    have tw0 : TW n T 0 (fun _ => 0) (upd width n 0) term mterm width term mterm := ⟨by rw [pk_us]; rfl, fun e he => pk_un (by omega), fun _ _ => rfl, fun _ _ => rfl, fun u hu => absurd hu (Nat.not_lt_zero _)⟩
    have eh2 := S_here hc (sk ch len (q + 1)) (by omega)
    have cbeg : M_Reader_readAtom F (nI i) wr text (nI len) kind place who width term start (nI n) (nI R) (nI k) = bd_ (M_Reader_accept F (nI (q + 1)) text (nI len) (40 : Int32)) fun z5 => if z5.1 = 0 then (some ((1 : Int32), z5.2, wr, upd kind n (nI k), upd place n (nI q), upd who n (nI (ch q - 97)), upd width n 0, term, upd start (if k = 0 then R + 1 else R) (nI (n + 1)), nI (n + 1), nI (if k = 0 then R + 1 else R))) else (bd_ (M_Reader_readAtom_L65 F text (nI len) (upd kind n (nI k)) (upd place n (nI q)) (upd who n (nI (ch q - 97))) (upd start (if k = 0 then R + 1 else R) (nI (n + 1))) (nI (n + 1)) (nI (if k = 0 then R + 1 else R)) F (1 : Int32) z5.2 wr (upd width n 0) term) fun z10 => cs_ z10 (fun q11 => bd_ (M_Reader_refuse q11.2.1 q11.1) fun z12 => gz_ z12.1 <| some (z12.1, q11.1, z12.2, upd kind n (nI k), upd place n (nI q), upd who n (nI (ch q - 97)), q11.2.2.1, q11.2.2.2, upd start (if k = 0 then R + 1 else R) (nI (n + 1)), nI (n + 1), nI (if k = 0 then R + 1 else R))) (fun o => some o)) := by
      unfold M_Reader_readAtom
      rw [bd_e _ pk, if_neg (show ¬ nI (ch q) < (97 : Int32) from nI_nlt (b := 97) (by omega) (by omega)), if_pos (show nI (ch q) < (107 : Int32) from nI_lt (b := 107) (by omega) (by decide)), ed, bd_e _ ea, lt_e, nI_1]
    have rbeg : M_Model_atom F tape (nI len) f fp (nI q) (nI n) sort predicate firstTerm termMany partPlace (nI T) mterm (nI (k - 1)) = if cr0 ch len (sk ch len (q + 1)) = (40 : Int32) then (bd_ (M_Model_next F tape (nI len) (nI (sk ch len (q + 1)))) fun z8 => bd_ (M_Model_atom_L51 F tape (nI len) (nI (n + 1)) (upd sort n (nI (k - 1))) (upd predicate n (nI (ch q - 97))) (upd firstTerm n (nI T)) termMany (upd partPlace n (nI q)) F (1 : Int32) f fp z8 (nI T) mterm) fun z15 => cs_ z15 (fun q16 => bd_ (M_Model_here tape (nI len) q16.2.2.1) fun z17 => if z17 = (41 : Int32) then (bd_ (M_Model_next F tape (nI len) q16.2.2.1) fun z18 => bd_ (M_Model_endPart (nI (n + 1)) (upd firstTerm n (nI T)) termMany q16.2.2.2.1) fun z19 => some ((1 : Int32), q16.1, q16.2.1, z18, nI (n + 1), upd sort n (nI (k - 1)), upd predicate n (nI (ch q - 97)), upd firstTerm n (nI T), z19, upd partPlace n (nI q), q16.2.2.2.1, q16.2.2.2.2)) else (bd_ (M_Model_wrong q16.1 q16.2.1 (1 : Int32) q16.2.2.1) fun z20 => gz_ z20.1 <| some (z20.1, z20.2.1, z20.2.2, q16.2.2.1, nI (n + 1), upd sort n (nI (k - 1)), upd predicate n (nI (ch q - 97)), upd firstTerm n (nI T), termMany, upd partPlace n (nI q), q16.2.2.2.1, q16.2.2.2.2))) (fun o => some o)) else (bd_ (M_Model_endPart (nI (n + 1)) (upd firstTerm n (nI T)) termMany (nI T)) fun z7 => some ((1 : Int32), f, fp, nI (sk ch len (q + 1)), nI (n + 1), upd sort n (nI (k - 1)), upd predicate n (nI (ch q - 97)), upd firstTerm n (nI T), z7, upd partPlace n (nI q), nI T, mterm)) := by
      unfold M_Model_atom
      rw [bd_e _ eh, bd_e _ ip, if_neg t10, bd_e _ eh, ed, bd_e _ eb, bd_e _ en, bd_e _ eh2]
    by_cases c40 : nx ch len (q + 1) 40
    · have e40 : cr0 ch len (sk ch len (q + 1)) = (40 : Int32) := (cr0_eq hc (k := 40) (by decide) (by decide)).mpr c40
      have a40 : M_Reader_accept F (nI (q + 1)) text (nI len) (40 : Int32) = _ := S_acc1 (k := 40) hc hF hq1 (by decide) c40
      have hl1 := c40.1
      have hft : (upd firstTerm n (nI T)) n = nI T := pk_us
      rw [bd_e _ a40, if_neg t10] at cbeg
      rw [if_pos e40, bd_e _ (S_next hc hF c40.1)] at rbeg
      rcases E_atomL (kind := upd kind n (nI k)) (place := upd place n (nI q)) (who := upd who n (nI (ch q - 97))) (start := upd start (if k = 0 then R + 1 else R) (nI (n + 1))) (R := if k = 0 then R + 1 else R) (sort := upd sort n (nI (k - 1))) (predicate := upd predicate n (nI (ch q - 97))) (termMany := termMany) (partPlace := upd partPlace n (nI q)) (wr := wr) (f := f) (fp := fp) hc hF hn hft 2 0 (sk ch len (q + 1) + 1) F F (fun _ => 0) _ _ _ rfl (by omega) (by omega) (by omega) (by omega) tw0 with ⟨r, qq, p, g1, g2, g3⟩ | ⟨p, width', term', T', mterm', g1, g2, g3, g4⟩ | ⟨p, w, v', width', term', mterm', g1, g2, g3, g4, g5, g6, g7, g8⟩
      · refine Or.inl ⟨r, qq, p, ?_, ?_, g3.1, g3.2.1, g3.2.2.1, g3.2.2.2.1, g3.2.2.2.2.1, g3.2.2.2.2.2.1, by rw [g3.2.2.2.2.2.2]; exact st0⟩
        · rw [cbeg]
          exact bd_e (fun z10 => cs_ z10 _ (fun o => some o)) g1
        · rw [rbeg]
          exact bd_e (fun z15 => cs_ z15 _ (fun o => some o)) g2
      · refine Or.inl ⟨(0, nI p, nI p, upd kind n (nI k), upd place n (nI q), upd who n (nI (ch q - 97)), width', term', upd start (if k = 0 then R + 1 else R) (nI (n + 1)), nI (n + 1), nI (if k = 0 then R + 1 else R)), (0, 1, nI p, nI p, nI (n + 1), upd sort n (nI (k - 1)), upd predicate n (nI (ch q - 97)), upd firstTerm n (nI T), termMany, upd partPlace n (nI q), T', mterm'), p, ?_, ?_, rfl, rfl, rfl, rfl, rfl, g4, st0⟩
        · rw [cbeg]
          exact bd_e (fun z10 => cs_ z10 _ (fun o => some o)) g1
        · have e41 : ¬ cr0 ch len p = (41 : Int32) := fun z => g3 ((cr0_eq hc (k := 41) (by decide) (by decide)).mp z)
          have g2' : M_Model_atom_L51 F tape (nI len) (nI (n + 1)) (upd sort n (nI (k - 1))) (upd predicate n (nI (ch q - 97))) (upd firstTerm n (nI T)) termMany (upd partPlace n (nI q)) F (1 : Int32) f fp (nI (sk ch len (sk ch len (q + 1) + 1))) (nI T) mterm = _ := g2
          rw [rbeg, bd_e _ g2']
          show bd_ (M_Model_here tape (nI len) (nI p)) _ = _
          rw [bd_e _ (S_here hc p (by omega)), if_neg e41]
          rfl
      · have e41 : cr0 ch len p = (41 : Int32) := (cr0_eq hc (k := 41) (by decide) (by decide)).mpr ⟨g3, g4⟩
        have hp1 : p + 1 ≤ len := by omega
        refine Or.inr ⟨ch q - 97, p + 1, w, v', width', term', mterm', ?_, ?_, by omega, g7, hn, by omega, hp1, by omega, g8⟩
        · rw [cbeg]
          exact bd_e (fun z10 => cs_ z10 _ (fun o => some o)) g1
        · have g2' : M_Model_atom_L51 F tape (nI len) (nI (n + 1)) (upd sort n (nI (k - 1))) (upd predicate n (nI (ch q - 97))) (upd firstTerm n (nI T)) termMany (upd partPlace n (nI q)) F (1 : Int32) f fp (nI (sk ch len (sk ch len (q + 1) + 1))) (nI T) mterm = _ := g2
          rw [rbeg, bd_e _ g2']
          show bd_ (M_Model_here tape (nI len) (nI p)) _ = _
          rw [bd_e _ (S_here hc p (by omega)), if_pos e41, bd_e _ (S_next hc hF g3), bd_e _ (S_endPart (show n < 260 by omega) hft)]
    · have e40 : ¬ cr0 ch len (sk ch len (q + 1)) = (40 : Int32) := fun z => c40 ((cr0_eq hc (k := 40) (by decide) (by decide)).mp z)
      have a40 : M_Reader_accept F (nI (q + 1)) text (nI len) (40 : Int32) = _ := S_acc0 (k := 40) hc hF hq1 (by decide) c40
      refine Or.inr ⟨ch q - 97, sk ch len (q + 1), 0, fun _ => 0, upd width n 0, term, mterm, ?_, ?_, by omega, by omega, hn, by omega, hsq, by omega, tw0⟩
      · rw [cbeg, bd_e _ a40, if_pos t00]
      · have e0 : M_Model_endPart (nI (n + 1)) (upd firstTerm n (nI T)) termMany (nI T) = some (upd termMany n (nI 0)) := S_endPart (termMany := termMany) (w := 0) (show n < 260 by omega) (show (upd firstTerm n (nI T)) n = nI T from pk_us)
        rw [rbeg, if_neg e40, bd_e _ e0, sk_sk]
        rfl
  · have ip : M_Model_isPredicate (cr0 ch len q) = some 0 := by
      unfold M_Model_isPredicate cr0
      by_cases c : q < len
      · have hcc := (hc.2 q c).1.2
        rw [if_pos c]
        by_cases c2 : ch q < 97
        · rw [if_pos (show nI (ch q) < (97 : Int32) from nI_lt (b := 97) c2 (by decide))]
        · rw [if_neg (show ¬ nI (ch q) < (97 : Int32) from nI_nlt (b := 97) (by omega) (by omega)), if_pos (show (106 : Int32) < nI (ch q) from nI_lt (a := 106) (by omega) (by omega))]
      · rw [if_neg c, if_pos (by decide)]
    refine Or.inl ⟨(0, nI q, nI q, kind, place, who, width, term, start, nI n, nI R), (0, 1, nI q, nI q, nI n, sort, predicate, firstTerm, termMany, partPlace, nI T, mterm), q, ?_, ?_, rfl, rfl, rfl, rfl, rfl, hsl, rfl⟩
    · unfold M_Reader_readAtom
      rw [bd_e _ pk]
      by_cases c97 : cc ch len q < (97 : Int32)
      · rw [if_pos c97]; rfl
      · have c107 : ¬ cc ch len q < (107 : Int32) := fun z => by
          by_cases c : q < len
          · have ec : cc ch len q = nI (ch q) := if_pos c
            have hcc := (hc.2 q c).1.2
            rw [ec] at c97 z
            refine cp ⟨c, ?_, ?_⟩
            · exact Classical.byContradiction (fun y => c97 (nI_lt (b := 97) (by omega) (by decide)))
            · exact Classical.byContradiction (fun y => nI_nlt (a := ch q) (b := 107) (by omega) (by omega) z)
          · have ec : cc ch len q = -1 := if_neg c
            rw [ec] at c97
            exact c97 (by decide)
        rw [if_neg c97, if_neg c107]; rfl
    · unfold M_Model_atom
      rw [bd_e _ eh, bd_e _ ip, if_pos t00]; rfl
end
