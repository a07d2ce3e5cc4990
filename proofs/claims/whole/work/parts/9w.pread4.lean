/-! a part of a body, alike on both sides -/
theorem gz0 {α : Type} (x : Option α) : gz_ (0 : Int32) x = x := gz_b false x
theorem gz1 {α : Type} (x : Option α) : gz_ (1 : Int32) x = x := gz_b true x
theorem S_setLast {kind : Nat → Int32} {n : Nat} {x : Int32} (hn : n < 240) : M_Program_setLastKind kind (nI (n + 1)) x = some (upd kind n x) := by
  have e : nI (n + 1) - (1 : Int32) = nI n := nI_pred n
  unfold M_Program_setLastKind
  rw [if_neg (show ¬ nI (n + 1) ≤ (0 : Int32) from nI_nle (by omega) (by omega)), e, gd_n _ hn (by decide), lt_e, nI_clamp (show n < 2 ^ 31 by omega)]
theorem upd2 {f : Nat → Int32} {k : Nat} {x y : Int32} : upd (upd f k x) k y = upd f k y := upd_upd (fun z hz => pk_un hz)
section
variable {ch : Nat → Nat} {text tape : Nat → Int32} {len F : Nat}
/-- what reading a part gives on both sides -/
def PT (ch : Nat → Nat) (len i n T R : Nat) (wr f fp : Int32) (kind place who width term start sort predicate firstTerm termMany partPlace mterm : Nat → Int32) (C : Option ((Int32) × (Int32) × (Int32) × (Nat → Int32) × (Nat → Int32) × (Nat → Int32) × (Nat → Int32) × (Nat → Int32) × (Nat → Int32) × (Int32) × (Int32))) (M : Option ((Int32) × (Int32) × (Int32) × (Int32) × (Int32) × (Nat → Int32) × (Nat → Int32) × (Nat → Int32) × (Nat → Int32) × (Nat → Int32) × (Int32) × (Nat → Int32))) : Prop :=
    (∃ r q p, C = some r ∧ M = some q ∧ r.1 = 0 ∧ r.2.2.1 = nI p ∧ q.1 = 0 ∧ q.2.1 = 1 ∧ q.2.2.1 = nI p ∧ p ≤ len ∧ r.2.2.2.2.2.2.2.2.1 0 = start 0) ∨
    (∃ k pl x1 x2 j w v width' term' mterm', C = some (1, nI j, wr, upd kind n (nI k), upd place n (nI pl), upd who n x1, width', term', upd start R (nI (n + 1)), nI (n + 1), nI R) ∧ M = some (1, f, fp, nI (sk ch len j), nI (n + 1), upd sort n (nI (k - 1)), upd predicate n x2, upd firstTerm n (nI T), upd termMany n (nI w), upd partPlace n (nI pl), nI (T + w), mterm') ∧ 1 ≤ k ∧ k ≤ 5 ∧ (k ≤ 2 → ∃ d, d < 10 ∧ x1 = nI d ∧ x2 = nI d) ∧ (3 ≤ k → w = 2) ∧ w ≤ 3 ∧ n < 240 ∧ pl ≤ len ∧ i + 1 ≤ j ∧ j ≤ len ∧ T + w ≤ j ∧ TW n T w v width' term' mterm' width term mterm)
theorem E_cmp (hc : CH ch text tape len) (hF : 480 < F) {q n T R : Nat} {kind place who width term start sort predicate firstTerm termMany partPlace mterm : Nat → Int32} {wr f fp : Int32} (hi : q ≤ len) (hsq : sk ch len q = q) (hn : n < 240) (hTi : T ≤ q) (hR : R < 240) (hR1 : 1 ≤ R) {M : Option ((Int32) × (Int32) × (Int32) × (Int32) × (Int32) × (Nat → Int32) × (Nat → Int32) × (Nat → Int32) × (Nat → Int32) × (Nat → Int32) × (Int32) × (Nat → Int32))}
    (hM : ∀ z4 : (Int32) × (Int32) × (Int32) × (Int32) × (Int32) × (Nat → Int32), M_Model_term F tape (nI len) f fp (nI q) (nI T) mterm = some z4 →
      (z4.1 = 0 → M = some ((0 : Int32), z4.2.1, z4.2.2.1, z4.2.2.2.1, nI (n + 1), upd sort n 2, upd predicate n (-1), upd firstTerm n (nI T), termMany, upd partPlace n (nI q), z4.2.2.2.2.1, z4.2.2.2.2.2)) ∧
      (¬ z4.1 = 0 → ∀ z5, M_Model_here tape (nI len) z4.2.2.2.1 = some z5 → (¬ z5 = 61 → ¬ z5 = 35 → ¬ z5 = 60 → ∃ Q, M = some (0, 1, z4.2.2.2.1, Q)) ∧ ∀ z15 z16, (M_Model_next F tape (nI len) z4.2.2.2.1 = some z15 → M_Model_term F tape (nI len) z4.2.1 z4.2.2.1 z15 z4.2.2.2.2.1 z4.2.2.2.2.2 = some z16 → (∀ k, (z5 = 61 ∧ k = 2) ∨ (z5 = 35 ∧ k = 3) ∨ (z5 = 60 ∧ k = 4) → (z16.1 = 0 → ∃ Q, M = some (0, z16.2.1, z16.2.2.1, Q)) ∧ (¬ z16.1 = 0 → ∀ z17, M_Model_endPart (nI (n + 1)) (upd firstTerm n (nI T)) termMany z16.2.2.2.2.1 = some z17 → M = some ((1 : Int32), z16.2.1, z16.2.2.1, z16.2.2.2.1, nI (n + 1), upd sort n (nI k), upd predicate n (-1), upd firstTerm n (nI T), z17, upd partPlace n (nI q), z16.2.2.2.2.1, z16.2.2.2.2.2)))))) :
    PT ch len q n T R wr f fp kind place who width term start sort predicate firstTerm termMany partPlace mterm (M_Reader_readComparison F (nI q) wr text (nI len) kind place who width term start (nI n) (nI R)) M := by
  have h480 := hc.1
  have t00 : (0 : Int32) = 0 := rfl
  have t10 : ¬ (1 : Int32) = 0 := by decide
  have st0 : (upd start R (nI (n + 1))) 0 = start 0 := pk_un (by omega)
  have ea : M_Program_addEntry kind place who width start (nI n) (nI R) (3 : Int32) (-1 : Int32) (nI q) = _ := S_addEntry (kind := kind) (place := place) (who := who) (width := width) (start := start) (R := R) (k := 3) (x1 := -1) (q := q) hn hR (by decide)
  rw [if_neg (by decide : ¬ (3 : Nat) = 0)] at ea
  have tw0 : TW n T 0 (fun _ => 0) (upd width n 0) term mterm width term mterm := ⟨by rw [pk_us]; rfl, fun e he => pk_un (by omega), fun _ _ => rfl, fun _ _ => rfl, fun u hu => absurd hu (Nat.not_lt_zero _)⟩
  have et := E_term (wr := wr) (f := f) (fp := fp) (mterm := mterm) (term := term) hc hF hi hn (show 0 < 3 by decide) tw0.1 hTi
  rw [hsq] at et
  have cb := Eq.refl (M_Reader_readComparison F (nI q) wr text (nI len) kind place who width term start (nI n) (nI R))
  conv at cb =>
    rhs
    unfold M_Reader_readComparison
  rw [bd_e _ ea] at cb
  rcases et with ⟨p, a, b, c, d, e1, e2, hp⟩ | ⟨x, j, hx, hj, hjl, hT4, e1, e2⟩
  · rw [bd_e _ e1, if_pos t00] at cb
    exact Or.inl ⟨_, _, p, cb, (hM _ e2).1 rfl, rfl, rfl, rfl, rfl, rfl, hp, st0⟩
  · have tw1 := tw0.push hx
    have hsj := sk_len (ch := ch) hjl
    have hsg2 := sk_le (ch := ch) (len := len) j
    have eH := S_here hc (sk ch len j) (by omega)
    obtain ⟨-, hM2⟩ := hM _ e2
    obtain ⟨hM3, hM4⟩ := hM2 t10 _ eH
    rw [bd_e _ e1, if_neg t10] at cb
    -- behind the sign
    have tail : ∀ (k : Nat) (s0 : Int32) (K : Nat → Int32), 3 ≤ k → k ≤ 5 → sk ch len j < len → K = upd kind n (nI k) → M_Reader_readComparison F (nI q) wr text (nI len) kind place who width term start (nI n) (nI R) = (bd_ (M_Reader_readTerm F (nI (sk ch len j + 1)) wr text (nI len) (upd (upd width n 0) n (nI (0 + 1))) (upd term (3 * n + 0) (nI x)) (nI (n + 1))) fun z6 => gz_ z6.1 <| some (z6.1, z6.2.1, z6.2.2.1, K, upd place n (nI q), upd who n (-1), z6.2.2.2.1, z6.2.2.2.2, upd start R (nI (n + 1)), nI (n + 1), nI R)) → ((cr0 ch len (sk ch len j) = 61 ∧ k - 1 = 2) ∨ (cr0 ch len (sk ch len j) = 35 ∧ k - 1 = 3) ∨ (cr0 ch len (sk ch len j) = 60 ∧ k - 1 = 4)) → PT ch len q n T R wr f fp kind place who width term start sort predicate firstTerm termMany partPlace mterm (M_Reader_readComparison F (nI q) wr text (nI len) kind place who width term start (nI n) (nI R)) M := fun k s0 K k3 k5 hl hK hC hk => by
      have hl1 : sk ch len j + 1 ≤ len := by omega
      have enx := S_next hc hF hl
      rcases E_term (wr := wr) (f := f) (fp := fp) (mterm := upd mterm (T + 0) (nI (mtv x))) (term := upd term (3 * n + 0) (nI x)) (T := T + 1) hc hF hl1 hn (show 1 < 3 by decide) tw1.1 (by omega) with ⟨p, a, b, c, d, f1, f2, hp⟩ | ⟨y, j2, hy, hj2, hjl2, hT42, f1, f2⟩
      · obtain ⟨hM5, -⟩ := hM4 _ _ enx f2 (k - 1) hk
        obtain ⟨Q, hQ⟩ := hM5 rfl
        refine Or.inl ⟨_, _, p, hC.trans (bd_e _ f1), hQ, rfl, rfl, rfl, rfl, rfl, hp, st0⟩
      · obtain ⟨-, hM6⟩ := hM4 _ _ enx f2 (k - 1) hk
        have ee := S_endPart (termMany := termMany) (w := 2) (show n < 260 by omega) (show (upd firstTerm n (nI T)) n = nI T from pk_us)
        have hM7 := hM6 t10 _ ee
        have tw2 := tw1.push hy
        have hsg3 := sk_le (ch := ch) (len := len) (sk ch len j + 1)
        refine Or.inr ⟨k, q, -1, -1, j2, 2, _, _, _, _, hC.trans ((bd_e _ f1).trans ?_), hM7, by omega, k5, fun z => by omega, fun _ => rfl, by omega, hn, hi, by omega, hjl2, by omega, tw2⟩
        rw [hK]
        exact gz1 _
    by_cases c35 : nx ch len j 35
    · have a35 : M_Reader_accept F (nI j) text (nI len) (35 : Int32) = _ := S_acc1 (k := 35) hc hF hjl (by decide) c35
      have es : M_Program_setLastKind (upd kind n (nI 3)) (nI (n + 1)) (4 : Int32) = some (upd (upd kind n (nI 3)) n (4 : Int32)) := S_setLast hn
      rw [bd_e _ a35, if_neg t10, bd_e _ es] at cb
      exact tail 4 0 _ (by omega) (by omega) c35.1 upd2 cb (Or.inr (Or.inl ⟨(cr0_eq hc (k := 35) (by decide) (by decide)).mpr c35, rfl⟩))
    · have a35 : M_Reader_accept F (nI j) text (nI len) (35 : Int32) = _ := S_acc0 (k := 35) hc hF hjl (by decide) c35
      have n35 : ¬ cr0 ch len (sk ch len j) = 35 := fun z => c35 ((cr0_eq hc (k := 35) (by decide) (by decide)).mp z)
      rw [bd_e _ a35, if_pos t00] at cb
      by_cases c60 : nx ch len j 60
      · have a60 : M_Reader_accept F (nI (sk ch len j)) text (nI len) (60 : Int32) = _ := S_acc1 (k := 60) hc hF hsj (by decide) (nx_sk.mpr c60)
        rw [sk_sk] at a60
        have es : M_Program_setLastKind (upd kind n (nI 3)) (nI (n + 1)) (5 : Int32) = some (upd (upd kind n (nI 3)) n (5 : Int32)) := S_setLast hn
        rw [bd_e _ a60, if_neg t10, bd_e _ es] at cb
        exact tail 5 0 _ (by omega) (by omega) c60.1 upd2 cb (Or.inr (Or.inr ⟨(cr0_eq hc (k := 60) (by decide) (by decide)).mpr c60, rfl⟩))
      · have a60 : M_Reader_accept F (nI (sk ch len j)) text (nI len) (60 : Int32) = _ := S_acc0 (k := 60) hc hF hsj (by decide) (fun z => c60 (nx_sk.mp z))
        rw [sk_sk] at a60
        have n60 : ¬ cr0 ch len (sk ch len j) = 60 := fun z => c60 ((cr0_eq hc (k := 60) (by decide) (by decide)).mp z)
        rw [bd_e _ a60, if_pos t00] at cb
        by_cases c61 : nx ch len j 61
        · have a61 : M_Reader_accept F (nI (sk ch len j)) text (nI len) (61 : Int32) = _ := S_acc1 (k := 61) hc hF hsj (by decide) (nx_sk.mpr c61)
          rw [sk_sk] at a61
          rw [bd_e _ a61, if_neg t10] at cb
          exact tail 3 0 _ (by omega) (by omega) c61.1 rfl cb (Or.inl ⟨(cr0_eq hc (k := 61) (by decide) (by decide)).mpr c61, rfl⟩)
        · have a61 : M_Reader_accept F (nI (sk ch len j)) text (nI len) (61 : Int32) = _ := S_acc0 (k := 61) hc hF hsj (by decide) (fun z => c61 (nx_sk.mp z))
          rw [sk_sk] at a61
          have n61 : ¬ cr0 ch len (sk ch len j) = 61 := fun z => c61 ((cr0_eq hc (k := 61) (by decide) (by decide)).mp z)
          rw [bd_e _ a61, if_pos t00] at cb
          obtain ⟨Q, hQ⟩ := hM3 n61 n35 n60
          exact Or.inl ⟨_, _, sk ch len j, cb, hQ, rfl, rfl, rfl, rfl, rfl, hsj, st0⟩
end
section
variable {ch : Nat → Nat} {text tape : Nat → Int32} {len F : Nat}
theorem PT.less {i q n T R : Nat} {wr f fp : Int32} {kind place who width term start sort predicate firstTerm termMany partPlace mterm : Nat → Int32} {C M} (h : PT ch len q n T R wr f fp kind place who width term start sort predicate firstTerm termMany partPlace mterm C M) (hi : i ≤ q) : PT ch len i n T R wr f fp kind place who width term start sort predicate firstTerm termMany partPlace mterm C M := by
  rcases h with h | ⟨k, pl, x1, x2, j, w, v, a, b, c, h1, h2, h3, h4, h5, h6, h7, h8, h9, h10, h11⟩
  · exact Or.inl h
  · exact Or.inr ⟨k, pl, x1, x2, j, w, v, a, b, c, h1, h2, h3, h4, h5, h6, h7, h8, h9, by omega, h11⟩
theorem E_part (hc : CH ch text tape len) (hF : 480 < F) {i n T R : Nat} {kind place who width term start sort predicate firstTerm termMany partPlace mterm : Nat → Int32} {wr f fp : Int32} (hi : i ≤ len) (h2n : 2 * n + 1 ≤ i) (hTi : T ≤ i) (hR : R ≤ n) (hR1 : 1 ≤ R) : PT ch len i n T R wr f fp kind place who width term start sort predicate firstTerm termMany partPlace mterm (M_Reader_readPart F (nI i) wr text (nI len) kind place who width term start (nI n) (nI R)) (M_Model_part F tape (nI len) f fp (nI (sk ch len i)) (nI n) sort predicate firstTerm termMany partPlace (nI T) mterm) := by
  have h480 := hc.1
  have hsl := sk_len (ch := ch) hi
  have hsg := sk_le (ch := ch) (len := len) i
  have t00 : (0 : Int32) = 0 := rfl
  have t10 : ¬ (1 : Int32) = 0 := by decide
  have eh := S_here hc (sk ch len i) (by omega)
  have hss := sk_sk (ch := ch) (len := len) i
  have hn : n < 240 := by omega
  by_cases c33 : nx ch len i 33
  · have a33 : M_Reader_accept F (nI i) text (nI len) (33 : Int32) = _ := S_acc1 (k := 33) hc hF hi (by decide) c33
    have e33 : cr0 ch len (sk ch len i) = (33 : Int32) := (cr0_eq hc (k := 33) (by decide) (by decide)).mpr c33
    have hl1 : sk ch len i + 1 ≤ len := by have := c33.1; omega
    have enx := S_next hc hF c33.1
    have hC : ∀ r, M_Reader_readAtom F (nI (sk ch len i + 1)) wr text (nI len) kind place who width term start (nI n) (nI R) (nI 2) = some r → r.1 = 0 ∨ r.1 = 1 → M_Reader_readPart F (nI i) wr text (nI len) kind place who width term start (nI n) (nI R) = some r := fun r hr h01 => by
      have hr : M_Reader_readAtom F (nI (sk ch len i + 1)) wr text (nI len) kind place who width term start (nI n) (nI R) (2 : Int32) = some r := hr
      unfold M_Reader_readPart
      rw [bd_e _ a33, if_neg t10, bd_e _ hr]
      rcases h01 with h | h
      · rw [h, gz0, ← h]
      · rw [h, gz1, ← h]
    have hM : ∀ r, M_Model_atom F tape (nI len) f fp (nI (sk ch len (sk ch len i + 1))) (nI n) sort predicate firstTerm termMany partPlace (nI T) mterm (nI (2 - 1)) = some r → r.1 = 0 ∨ r.1 = 1 → M_Model_part F tape (nI len) f fp (nI (sk ch len i)) (nI n) sort predicate firstTerm termMany partPlace (nI T) mterm = some r := fun r hr h01 => by
      have hr : M_Model_atom F tape (nI len) f fp (nI (sk ch len (sk ch len i + 1))) (nI n) sort predicate firstTerm termMany partPlace (nI T) mterm (1 : Int32) = some r := hr
      unfold M_Model_part
      rw [bd_e _ eh, if_pos e33, bd_e _ enx, bd_e _ hr]
      rcases h01 with h | h
      · rw [h, gz0, ← h]
      · rw [h, gz1, ← h]
    rcases E_atom (k := 2) (wr := wr) (f := f) (fp := fp) (kind := kind) (place := place) (who := who) (width := width) (term := term) (start := start) (sort := sort) (predicate := predicate) (firstTerm := firstTerm) (termMany := termMany) (partPlace := partPlace) (mterm := mterm) hc hF hl1 (by omega) (show T ≤ sk ch len i + 1 by omega) hR (by decide) (Or.inr hR1) with ⟨r, q, p, g1, g2, g3, g4, g5, g6⟩ | ⟨d, j, w, v, width', term', mterm', g1, g2, g3, g4, g5, g6, g7, g8, g9⟩
    · exact Or.inl ⟨r, q, p, hC r g1 (Or.inl g3), hM q g2 (Or.inl g5), g3, g4, g5, g6⟩
    · have hsg2 := sk_le (ch := ch) (len := len) (sk ch len i + 1)
      rw [if_neg (by decide : ¬ (2 : Nat) = 0)] at g1
      exact Or.inr ⟨2, _, _, _, j, w, v, width', term', mterm', hC _ g1 (Or.inr rfl), hM _ g2 (Or.inr rfl), by decide, by decide, fun _ => ⟨d, g3, rfl, rfl⟩, fun z => absurd z (by decide), g4, g5, by have := sk_len (ch := ch) hl1; omega, by omega, g7, g8, g9⟩
  · have a33 : M_Reader_accept F (nI i) text (nI len) (33 : Int32) = _ := S_acc0 (k := 33) hc hF hi (by decide) c33
    have n33 : ¬ cr0 ch len (sk ch len i) = (33 : Int32) := fun z => c33 ((cr0_eq hc (k := 33) (by decide) (by decide)).mp z)
    have pk := S_peek hc hF hsl
    rw [hss] at pk
    generalize hq : sk ch len i = q at *
    by_cases cp : q < len ∧ 97 ≤ ch q ∧ ch q ≤ 106
    · obtain ⟨c1, c2, c3⟩ := cp
      have ec : cc ch len q = nI (ch q) := if_pos c1
      have er : cr0 ch len q = nI (ch q) := if_pos c1
      have ip : M_Model_isPredicate (nI (ch q)) = some 1 := by
        unfold M_Model_isPredicate
        rw [if_neg (show ¬ nI (ch q) < (97 : Int32) from nI_nlt (b := 97) (by omega) (by omega)), if_neg (show ¬ (106 : Int32) < nI (ch q) from nI_nlt (a := 106) (b := ch q) (by omega) (by decide))]
      have hC : ∀ r, M_Reader_readAtom F (nI q) wr text (nI len) kind place who width term start (nI n) (nI R) (nI 1) = some r → r.1 = 0 ∨ r.1 = 1 → M_Reader_readPart F (nI i) wr text (nI len) kind place who width term start (nI n) (nI R) = some r := fun r hr h01 => by
        have hr : M_Reader_readAtom F (nI q) wr text (nI len) kind place who width term start (nI n) (nI R) (1 : Int32) = some r := hr
        unfold M_Reader_readPart
        rw [bd_e _ a33, if_pos t00, bd_e _ pk, ec, if_neg (show ¬ nI (ch q) < (97 : Int32) from nI_nlt (b := 97) (by omega) (by omega)), if_neg (show ¬ (122 : Int32) < nI (ch q) from nI_nlt (a := 122) (b := ch q) (by omega) (by decide)), bd_e _ hr]
        rcases h01 with h | h
        · rw [h, gz0, ← h]
        · rw [h, gz1, ← h]
      have hM : ∀ r, M_Model_atom F tape (nI len) f fp (nI q) (nI n) sort predicate firstTerm termMany partPlace (nI T) mterm (nI (1 - 1)) = some r → r.1 = 0 ∨ r.1 = 1 → M_Model_part F tape (nI len) f fp (nI q) (nI n) sort predicate firstTerm termMany partPlace (nI T) mterm = some r := fun r hr h01 => by
        have hr : M_Model_atom F tape (nI len) f fp (nI q) (nI n) sort predicate firstTerm termMany partPlace (nI T) mterm (0 : Int32) = some r := hr
        unfold M_Model_part
        rw [bd_e _ eh, if_neg n33, er, bd_e _ ip, if_neg t10, bd_e _ hr]
        rcases h01 with h | h
        · rw [h, gz0, ← h]
        · rw [h, gz1, ← h]
      have ea := E_atom (k := 1) (i := q) (wr := wr) (f := f) (fp := fp) (kind := kind) (place := place) (who := who) (width := width) (term := term) (start := start) (sort := sort) (predicate := predicate) (firstTerm := firstTerm) (termMany := termMany) (partPlace := partPlace) (mterm := mterm) hc hF hsl (by omega) (show T ≤ q by omega) hR (by decide) (Or.inr hR1)
      rw [hss] at ea
      rcases ea with ⟨r, qq, p, g1, g2, g3, g4, g5, g6⟩ | ⟨d, j, w, v, width', term', mterm', g1, g2, g3, g4, g5, g6, g7, g8, g9⟩
      · exact Or.inl ⟨r, qq, p, hC r g1 (Or.inl g3), hM qq g2 (Or.inl g5), g3, g4, g5, g6⟩
      · rw [if_neg (by decide : ¬ (1 : Nat) = 0)] at g1
        exact Or.inr ⟨1, _, _, _, j, w, v, width', term', mterm', hC _ g1 (Or.inr rfl), hM _ g2 (Or.inr rfl), by decide, by decide, fun _ => ⟨d, g3, rfl, rfl⟩, fun z => absurd z (by decide), g4, g5, hsl, by omega, g7, g8, g9⟩
    · have ip : M_Model_isPredicate (cr0 ch len q) = some 0 := by
        unfold M_Model_isPredicate cr0
        by_cases c : q < len
        · have hcc := (hc.2 q c).1.2
          rw [if_pos c]
          by_cases c2 : ch q < 97
          · rw [if_pos (show nI (ch q) < (97 : Int32) from nI_lt (b := 97) c2 (by decide))]
          · rw [if_neg (show ¬ nI (ch q) < (97 : Int32) from nI_nlt (b := 97) (by omega) (by omega)), if_pos (show (106 : Int32) < nI (ch q) from nI_lt (a := 106) (by omega) (by omega))]
        · rw [if_neg c, if_pos (by decide)]
      have eb : M_Model_beginPart (nI q) (nI n) sort predicate firstTerm partPlace (nI T) (2 : Int32) (-1 : Int32) = _ := S_begin (sort := sort) (predicate := predicate) (firstTerm := firstTerm) (partPlace := partPlace) (T := T) (q := q) (x0 := 2) (x1 := -1) (show n < 260 by omega)
      have mb := Eq.refl (M_Model_part F tape (nI len) f fp (nI q) (nI n) sort predicate firstTerm termMany partPlace (nI T) mterm)
      conv at mb =>
        rhs
        unfold M_Model_part
      rw [bd_e _ eh, if_neg n33, bd_e _ ip, if_pos t00, bd_e _ eb] at mb
      have ep : nI (n + 1) - (1 : Int32) = nI n := nI_pred n
      have cmp := E_cmp (q := q) (wr := wr) (f := f) (fp := fp) (kind := kind) (place := place) (who := who) (width := width) (term := term) (start := start) (sort := sort) (predicate := predicate) (firstTerm := firstTerm) (termMany := termMany) (partPlace := partPlace) (mterm := mterm) (R := R) hc hF hsl hss hn (show T ≤ q by omega) (by omega) hR1 (M := M_Model_part F tape (nI len) f fp (nI q) (nI n) sort predicate firstTerm termMany partPlace (nI T) mterm) (fun z4 hz4 => by
        rw [bd_e _ hz4] at mb
        refine ⟨fun h0 => by rw [if_pos h0] at mb; exact mb, fun h0 z5 hz5 => ?_⟩
        rw [if_neg h0, bd_e _ hz5] at mb
        refine ⟨fun n61 n35 n60 => ?_, fun z15 z16 hz15 hz16 k hk => ?_⟩
        · rw [if_neg n61, if_neg n35, if_neg n60] at mb
          exact ⟨_, mb⟩
        · have mb2 : M_Model_part F tape (nI len) f fp (nI q) (nI n) sort predicate firstTerm termMany partPlace (nI T) mterm = if z16.1 = 0 then (some ((0 : Int32), z16.2.1, z16.2.2.1, z16.2.2.2.1, nI (n + 1), upd sort n (nI k), upd predicate n (-1), upd firstTerm n (nI T), termMany, upd partPlace n (nI q), z16.2.2.2.2.1, z16.2.2.2.2.2)) else (bd_ (M_Model_endPart (nI (n + 1)) (upd firstTerm n (nI T)) termMany z16.2.2.2.2.1) fun z17 => some ((1 : Int32), z16.2.1, z16.2.2.1, z16.2.2.2.1, nI (n + 1), upd sort n (nI k), upd predicate n (-1), upd firstTerm n (nI T), z17, upd partPlace n (nI q), z16.2.2.2.2.1, z16.2.2.2.2.2)) := by
            rcases hk with ⟨h, rfl⟩ | ⟨h, rfl⟩ | ⟨h, rfl⟩
            · rw [if_pos h, if_pos h, ep, gd_n _ (show n < 260 by omega) (by decide), lt_e, nI_clamp (show n < 2 ^ 31 by omega), upd2, bd_e _ hz15, bd_e _ hz16] at mb
              exact mb
            · have h61 : ¬ z5 = 61 := by rw [h]; decide
              rw [if_neg h61, if_pos h, if_neg h61, if_pos h, ep, gd_n _ (show n < 260 by omega) (by decide), lt_e, nI_clamp (show n < 2 ^ 31 by omega), upd2, bd_e _ hz15, bd_e _ hz16] at mb
              exact mb
            · have h61 : ¬ z5 = 61 := by rw [h]; decide
              have h35 : ¬ z5 = 35 := by rw [h]; decide
              rw [if_neg h61, if_neg h35, if_pos h, if_neg h61, if_neg h35, ep, gd_n _ (show n < 260 by omega) (by decide), lt_e, nI_clamp (show n < 2 ^ 31 by omega), upd2, bd_e _ hz15, bd_e _ hz16] at mb
              exact mb
          refine ⟨fun g0 => ⟨_, mb2.trans (if_pos g0)⟩, fun g0 z17 hz17 => ?_⟩
          rw [mb2, if_neg g0, bd_e _ hz17])
      by_cases cz : q < len ∧ 107 ≤ ch q ∧ ch q ≤ 122
      · -- a small letter that is no predicate: both refuse it
        obtain ⟨c1, c2, c3⟩ := cz
        have ec : cc ch len q = nI (ch q) := if_pos c1
        have er : cr0 ch len q = nI (ch q) := if_pos c1
        have iv : M_Model_isVariable (cr0 ch len q) = some 0 := by
          unfold M_Model_isVariable
          rw [er, if_neg (show ¬ nI (ch q) < (65 : Int32) from nI_nlt (b := 65) (by omega) (by omega)), if_pos (show (90 : Int32) < nI (ch q) from nI_lt (a := 90) (by omega) (by omega))]
        have idg : M_Model_isDigit (cr0 ch len q) = some 0 := by
          unfold M_Model_isDigit
          rw [er, if_neg (show ¬ nI (ch q) < (48 : Int32) from nI_nlt (b := 48) (by omega) (by omega)), if_pos (show (57 : Int32) < nI (ch q) from nI_lt (a := 57) (by omega) (by omega))]
        have et : M_Model_term F tape (nI len) f fp (nI q) (nI T) mterm = some (0, 1, nI q, nI q, nI T, mterm) := by
          unfold M_Model_term
          rw [bd_e _ eh, bd_e _ iv, if_pos t00, bd_e _ idg, if_pos t00]
          rfl
        rw [bd_e _ et, if_pos t00] at mb
        have ra : M_Reader_readAtom F (nI q) wr text (nI len) kind place who width term start (nI n) (nI R) (1 : Int32) = some (0, nI q, nI q, kind, place, who, width, term, start, nI n, nI R) := by
          unfold M_Reader_readAtom
          rw [bd_e _ pk, ec, if_neg (show ¬ nI (ch q) < (97 : Int32) from nI_nlt (b := 97) (by omega) (by omega)), if_neg (show ¬ nI (ch q) < (107 : Int32) from nI_nlt (b := 107) (by omega) (by omega))]
          rfl
        refine Or.inl ⟨(0, nI q, nI q, kind, place, who, width, term, start, nI n, nI R), _, q, ?_, mb, rfl, rfl, rfl, rfl, rfl, hsl, rfl⟩
        unfold M_Reader_readPart
        rw [bd_e _ a33, if_pos t00, bd_e _ pk, ec, if_neg (show ¬ nI (ch q) < (97 : Int32) from nI_nlt (b := 97) (by omega) (by omega)), if_neg (show ¬ (122 : Int32) < nI (ch q) from nI_nlt (a := 122) (b := ch q) (by omega) (by decide)), bd_e _ ra]
        rfl
      · have way : ∀ r, M_Reader_readComparison F (nI q) wr text (nI len) kind place who width term start (nI n) (nI R) = some r → r.1 = 0 ∨ r.1 = 1 → M_Reader_readPart F (nI i) wr text (nI len) kind place who width term start (nI n) (nI R) = some r := fun r hr h01 => by
          unfold M_Reader_readPart
          rw [bd_e _ a33, if_pos t00, bd_e _ pk]
          by_cases c97 : cc ch len q < (97 : Int32)
          · rw [if_pos c97, bd_e _ hr]
            rcases h01 with h | h
            · rw [h, gz0, ← h]
            · rw [h, gz1, ← h]
          · have c122 : (122 : Int32) < cc ch len q := by
              by_cases c : q < len
              · have ec : cc ch len q = nI (ch q) := if_pos c
                have hcc := (hc.2 q c).1.2
                rw [ec] at c97 ⊢
                have h97 : 97 ≤ ch q := Classical.byContradiction (fun y => c97 (nI_lt (b := 97) (by omega) (by decide)))
                refine nI_lt (a := 122) ?_ (by omega)
                refine Classical.byContradiction (fun y => ?_)
                by_cases c6 : ch q ≤ 106
                · exact cp ⟨c, h97, c6⟩
                · exact cz ⟨c, by omega, by omega⟩
              · have ec : cc ch len q = -1 := if_neg c
                rw [ec] at c97
                exact absurd (by decide) c97
            rw [if_neg c97, if_pos c122, bd_e _ hr]
            rcases h01 with h | h
            · rw [h, gz0, ← h]
            · rw [h, gz1, ← h]
        rcases cmp.less hsg with ⟨r, qq, p, g1, g2, g3, g4⟩ | ⟨k, pl, x1, x2, j, w, v, a, b, c, h1, h2⟩
        · exact Or.inl ⟨r, qq, p, way r g1 (Or.inl g3), g2, g3, g4⟩
        · exact Or.inr ⟨k, pl, x1, x2, j, w, v, a, b, c, way _ h1 (Or.inr rfl), h2⟩
end
