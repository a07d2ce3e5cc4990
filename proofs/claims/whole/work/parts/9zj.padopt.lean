/-! adopt: the reference takes over what was read -/
/-- the terms of the last atom of p -/
def arw (X : Nat → En) : Nat → Nat → Nat
  | 0, _ => 0
  | m + 1, p => if (X m).kd ≤ 2 ∧ (X m).pd = p then (X m).wd else arw X m p
theorem arw_arf {X : Nat → En} {n p : Nat} (h : ∀ x, x < n → (X x).kd ≤ 2 → (X x).wd = arf X n (X x).pd) : ∀ m, m ≤ n → arw X m p = if sof X m p = 0 then 0 else arf X n p
  | 0, _ => rfl
  | m + 1, hm => by
    have ih := arw_arf (p := p) h m (by omega)
    have e1 : sof X (m + 1) p = if (X m).kd ≤ 2 ∧ (X m).pd = p then (if (X m).kd = 0 then 2 else if sof X m p = 0 then 1 else sof X m p) else sof X m p := rfl
    show (if (X m).kd ≤ 2 ∧ (X m).pd = p then (X m).wd else arw X m p) = _
    by_cases c : (X m).kd ≤ 2 ∧ (X m).pd = p
    · have : sof X (m + 1) p ≠ 0 := fun z => sof_0.mp z m (by omega) c
      rw [if_pos c, if_neg this, h m (by omega) c.1, c.2]
    · rw [if_neg c, ih, e1, if_neg c]
theorem arf_none {X : Nat → En} {p : Nat} : ∀ {m : Nat}, sof X m p = 0 → arf X m p = 0
  | 0, _ => rfl
  | m + 1, h => by
    have h0 := sof_0.mp h
    show (if ((X m).kd ≤ 2 ∧ (X m).pd = p) ∧ sof X m p = 0 then (X m).wd else arf X m p) = 0
    rw [if_neg (fun z => h0 m (by omega) z.1)]
    exact arf_none (sof_0.mpr (fun e he => h0 e (by omega)))
section
variable {F : Nat} {X : Nat → En} {s : Nat → Nat} {R n : Nat} {kind place who width term start firstPart partMany rulePlace sort predicate firstTerm termMany partPlace mterm : Nat → Int32}
theorem S_ad151 (h : ST X s R n kind place who width term start firstPart partMany rulePlace sort predicate firstTerm termMany partPlace mterm) (hn : n ≤ 240) (h480 : tw_ X n ≤ 480) (hF : 480 < F) {r i : Nat} (hr : r < R) (hr16 : r < 16) (hi : i ≤ s (r + 1) - s r - 1) (hi5 : i ≤ 5) : ∀ (d t f : Nat) (tO : Nat → Int32), t + d = (X (s r + i)).wd → d < f → ∃ tO', M_Model_adopt_L151 F firstPart firstTerm termMany mterm (nI (s r + i)) (nI i) (nI r) f (nI t) tO = some tO' ∧ (∀ u, t ≤ u → u < (X (s r + i)).wd → tO' (3 * (6 * r + i) + u) = nI ((apX X s R).mt (ixX X s mterm) r i u)) ∧ ∀ x, (x < 3 * (6 * r + i) + t ∨ 3 * (6 * r + i) + 3 ≤ x) → tO' x = tO x
  | 0, t, f, tO, ht, hf => by
    obtain ⟨f, rfl⟩ : ∃ m, f = m + 1 := ⟨f - 1, by omega⟩
    obtain ⟨b1, b2, -⟩ := h.2.2.2.2.2 r hr
    obtain ⟨a, -, c⟩ := h.1 (s r + i) (by omega)
    have w3 := a.2.1
    unfold M_Model_adopt_L151
    rw [gd_n _ (show s r + i < 260 by omega) (by decide), nI_clamp (show s r + i < 2 ^ 31 by omega), c.2.2.2.1, if_pos (nI_le (by omega) (by omega))]
    exact ⟨tO, rfl, fun u h1 h2 => by omega, fun x _ => rfl⟩
  | d + 1, t, f, tO, ht, hf => by
    obtain ⟨f, rfl⟩ : ∃ m, f = m + 1 := ⟨f - 1, by omega⟩
    obtain ⟨b1, b2, -⟩ := h.2.2.2.2.2 r hr
    have hen : s r + i < n := by omega
    obtain ⟨a, -, c⟩ := h.1 (s r + i) hen
    have w3 := a.2.1
    have hm := tw_end (X := X) hen
    have hv := a.2.2.2.2.1 t (by omega)
    have hmv := mtv_lt hv
    have e3 : (3 : Int32) * nI (6 * r + i) + nI t = nI (3 * (6 * r + i) + t) := x3b _ _
    have fin : ∀ x, x = (apX X s R).mt (ixX X s mterm) r i t → ∃ tO', M_Model_adopt_L151 F firstPart firstTerm termMany mterm (nI (s r + i)) (nI i) (nI r) f (nI (t + 1)) (upd tO (3 * (6 * r + i) + t) (nI x)) = some tO' ∧ (∀ u, t ≤ u → u < (X (s r + i)).wd → tO' (3 * (6 * r + i) + u) = nI ((apX X s R).mt (ixX X s mterm) r i u)) ∧ ∀ x, (x < 3 * (6 * r + i) + t ∨ 3 * (6 * r + i) + 3 ≤ x) → tO' x = tO x := fun x hx => by
      obtain ⟨tO', g1, g2, g3⟩ := S_ad151 h hn h480 hF hr hr16 hi hi5 d (t + 1) f (upd tO (3 * (6 * r + i) + t) (nI x)) (by omega) (by omega)
      refine ⟨tO', g1, fun u u1 u2 => ?_, fun y hy => ?_⟩
      · by_cases cu : u = t
        · subst cu
          rw [g3 _ (by omega), pk_us, hx]
        · exact g2 u (by omega) u2
      · rw [g3 y (by omega), pk_un (by omega)]
    have emt : (apX X s R).mt (ixX X s mterm) r i t = if (X (s r + i)).tm t < 12 then (X (s r + i)).tm t else 100 + ixX X s mterm r ((X (s r + i)).tm t - 12) := rfl
    unfold M_Model_adopt_L151
    rw [gd_n _ (show s r + i < 260 by omega) (by decide), nI_clamp (show s r + i < 2 ^ 31 by omega), c.2.2.2.1, if_neg (nI_ge (a := t) (b := (X (s r + i)).wd) (by omega) (by omega)), gd_n _ (show s r + i < 260 by omega) (by decide), c.2.2.1, nI_add, gd_n _ (show tw_ X (s r + i) + t < 480 by omega) (by decide), lt_e, nI_clamp (show tw_ X (s r + i) + t < 2 ^ 31 by omega), c.2.2.2.2.2 t (by omega), lt_e, x6, e3]
    by_cases c12 : (X (s r + i)).tm t < 12
    · have em : mtv ((X (s r + i)).tm t) = (X (s r + i)).tm t := if_pos c12
      rw [em, if_neg (show ¬ (100 : Int32) ≤ nI ((X (s r + i)).tm t) from nI_ge (a := (X (s r + i)).tm t) (b := 100) (by omega) (by decide)), gd_n _ (show 3 * (6 * r + i) + t < 288 by omega) (by decide), lt_e, lt_e, nI_1, nI_clamp (show 3 * (6 * r + i) + t < 2 ^ 31 by omega)]
      exact fin _ (by rw [emt, if_pos c12])
    · obtain ⟨f1, f2⟩ := apX_flt h hr hi (show t < (X (s r + i)).wd by omega) (by omega)
      have em : mtv ((X (s r + i)).tm t) = 100 + ((X (s r + i)).tm t - 12) := (mtv_let hv (by omega)).mpr (by omega)
      have en := S_numberOfM (F := F) h hn h480 hF hr f2 f1
      have ea : (100 : Int32) + nI (ixX X s mterm r ((X (s r + i)).tm t - 12)) = nI (100 + ixX X s mterm r ((X (s r + i)).tm t - 12)) := nI_add 100 _
      rw [em, if_pos (show (100 : Int32) ≤ nI (100 + ((X (s r + i)).tm t - 12)) from nI_le (a := 100) (by omega) (by omega)), bd_e _ en, gd_n _ (show 3 * (6 * r + i) + t < 288 by omega) (by decide), lt_e, lt_e, nI_1, nI_clamp (show 3 * (6 * r + i) + t < 2 ^ 31 by omega), ea]
      exact fin _ (by rw [emt, if_neg c12])
/-- a part's rows in the reference -/
def RP (X : Nat → En) (s : Nat → Nat) (R : Nat) (mterm : Nat → Int32) (r i : Nat) (ps pp pts tO : Nat → Int32) : Prop := ps (6 * r + i) = nI ((X (s r + i)).kd - 1) ∧ ((X (s r + i)).kd ≤ 2 → pp (6 * r + i) = nI (X (s r + i)).pd) ∧ pts (6 * r + i) = nI (X (s r + i)).wd ∧ ∀ t, t < (X (s r + i)).wd → tO (3 * (6 * r + i) + t) = nI ((apX X s R).mt (ixX X s mterm) r i t)
theorem S_ad78 (h : ST X s R n kind place who width term start firstPart partMany rulePlace sort predicate firstTerm termMany partPlace mterm) (hn : n ≤ 240) (h480 : tw_ X n ≤ 480) (hF : 480 < F) {r : Nat} (hr : r < R) (hr16 : r < 16) (hK : s (r + 1) - s r - 1 ≤ 5) : ∀ (d i f : Nat) (ps pp pts tO ki wi : Nat → Int32), i + d = s (r + 1) - s r → d < f → (∀ p, p < 10 → ki p = nI (sof X (s r + i) p)) → (∀ p, p < 10 → wi p = nI (arw X (s r + i) p)) → ∃ ps' pp' pts' tO' ki' wi', M_Model_adopt_L78 F firstPart partMany sort predicate firstTerm termMany mterm (nI r) f (nI i) ps pp pts tO ki wi = some (ps', pp', pts', tO', ki', wi') ∧ (∀ x, i ≤ x → x < s (r + 1) - s r → RP X s R mterm r x ps' pp' pts' tO') ∧ (∀ y, (y < 6 * r + i ∨ 6 * r + 6 ≤ y) → ps' y = ps y ∧ pp' y = pp y ∧ pts' y = pts y) ∧ (∀ y, (y < 3 * (6 * r + i) ∨ 3 * (6 * r + 6) ≤ y) → tO' y = tO y) ∧ (∀ p, p < 10 → ki' p = nI (sof X (s (r + 1)) p)) ∧ ∀ p, p < 10 → wi' p = nI (arw X (s (r + 1)) p)
  | 0, i, f, ps, pp, pts, tO, ki, wi, hi, hf, hki, hwi => by
    obtain ⟨f, rfl⟩ : ∃ m, f = m + 1 := ⟨f - 1, by omega⟩
    have hR := h.2.2.2.1
    obtain ⟨b1, b2, b3, b4, b5, -⟩ := h.2.2.2.2.2 r hr
    have e : s r + i = s (r + 1) := by omega
    rw [e] at hki hwi
    unfold M_Model_adopt_L78
    rw [gd_n _ (show r < 250 by omega) (by decide), nI_clamp (show r < 2 ^ 31 by omega), b5, if_pos (nI_lt (by omega) (by omega))]
    exact ⟨ps, pp, pts, tO, ki, wi, rfl, fun x h1 h2 => by omega, fun _ _ => ⟨rfl, rfl, rfl⟩, fun _ _ => rfl, hki, hwi⟩
  | d + 1, i, f, ps, pp, pts, tO, ki, wi, hi, hf, hki, hwi => by
    obtain ⟨f, rfl⟩ : ∃ m, f = m + 1 := ⟨f - 1, by omega⟩
    have hR := h.2.2.2.1
    obtain ⟨b1, b2, b3, b4, b5, b6, b7, b8⟩ := h.2.2.2.2.2 r hr
    have hen : s r + i < n := by omega
    obtain ⟨⟨a1, a2, a3, a4, a5, a6⟩, -, ⟨c1, c2, c3, c4, c5, c6⟩⟩ := h.1 (s r + i) hen
    obtain ⟨tO1, g1, g2, g3⟩ := S_ad151 (F := F) h hn h480 hF hr hr16 (show i ≤ s (r + 1) - s r - 1 by omega) (by omega) (X (s r + i)).wd 0 F tO (by omega) (by omega)
    have g1 : M_Model_adopt_L151 F firstPart firstTerm termMany mterm (nI (s r + i)) (nI i) (nI r) F (0 : Int32) tO = some tO1 := g1
    have e0 : ∀ p, sof X (s r + (i + 1)) p = if (X (s r + i)).kd ≤ 2 ∧ (X (s r + i)).pd = p then (if (X (s r + i)).kd = 0 then 2 else if sof X (s r + i) p = 0 then 1 else sof X (s r + i) p) else sof X (s r + i) p := fun p => rfl
    have w0 : ∀ p, arw X (s r + (i + 1)) p = if (X (s r + i)).kd ≤ 2 ∧ (X (s r + i)).pd = p then (X (s r + i)).wd else arw X (s r + i) p := fun p => rfl
    have i0 : (X (s r + i)).kd = 0 ↔ i = 0 := by
      constructor
      · intro z
        refine Classical.byContradiction (fun y => ?_)
        have := b8 (s r + i) (by omega) (by omega)
        omega
      · intro z; rw [z]; exact b7
    have head : M_Model_adopt_L78 F firstPart partMany sort predicate firstTerm termMany mterm (nI r) (f + 1) (nI i) ps pp pts tO ki wi = bd_ (M_Model_isAtom sort (nI (s r + i))) fun z21 => if z21 = 0 then (lt_ (nI i + (1 : Int32)) fun v30 => M_Model_adopt_L78 F firstPart partMany sort predicate firstTerm termMany mterm (nI r) f v30 (upd ps (6 * r + i) (nI ((X (s r + i)).kd - 1))) (upd pp (6 * r + i) (predicate (s r + i))) (upd pts (6 * r + i) (nI (X (s r + i)).wd)) tO1 ki wi) else (gd_ (nI (s r + i)) 260 <| lt_ (predicate (s r + i)) fun v22 => gd_ (nI (s r + i)) 260 <| gd_ v22 10 <| lt_ (upd wi v22.toNatClampNeg (nI (X (s r + i)).wd)) fun f23 => if nI i = 0 then (gd_ v22 10 <| lt_ (upd ki v22.toNatClampNeg (2 : Int32)) fun f28 => lt_ (nI i + (1 : Int32)) fun v29 => M_Model_adopt_L78 F firstPart partMany sort predicate firstTerm termMany mterm (nI r) f v29 (upd ps (6 * r + i) (nI ((X (s r + i)).kd - 1))) (upd pp (6 * r + i) (predicate (s r + i))) (upd pts (6 * r + i) (nI (X (s r + i)).wd)) tO1 f28 f23) else (gd_ v22 10 <| if (ki v22.toNatClampNeg) = (2 : Int32) then (gd_ v22 10 <| lt_ (upd ki v22.toNatClampNeg (2 : Int32)) fun f26 => lt_ (nI i + (1 : Int32)) fun v27 => M_Model_adopt_L78 F firstPart partMany sort predicate firstTerm termMany mterm (nI r) f v27 (upd ps (6 * r + i) (nI ((X (s r + i)).kd - 1))) (upd pp (6 * r + i) (predicate (s r + i))) (upd pts (6 * r + i) (nI (X (s r + i)).wd)) tO1 f26 f23) else (gd_ v22 10 <| lt_ (upd ki v22.toNatClampNeg (1 : Int32)) fun f24 => lt_ (nI i + (1 : Int32)) fun v25 => M_Model_adopt_L78 F firstPart partMany sort predicate firstTerm termMany mterm (nI r) f v25 (upd ps (6 * r + i) (nI ((X (s r + i)).kd - 1))) (upd pp (6 * r + i) (predicate (s r + i))) (upd pts (6 * r + i) (nI (X (s r + i)).wd)) tO1 f24 f23))) := by
      conv => lhs; unfold M_Model_adopt_L78
      rw [gd_n _ (show r < 250 by omega) (by decide), nI_clamp (show r < 2 ^ 31 by omega), b5, if_neg (nI_nlt (a := s (r + 1) - s r - 1) (b := i) (by omega) (by omega)), gd_n _ (show r < 250 by omega) (by decide), b4, nI_add, lt_e, gd_n _ (show s r + i < 260 by omega) (by decide), x6, gd_n _ (show 6 * r + i < 96 by omega) (by decide), lt_e, gd_n _ (show s r + i < 260 by omega) (by decide), gd_n _ (show 6 * r + i < 96 by omega) (by decide), lt_e, gd_n _ (show s r + i < 260 by omega) (by decide), gd_n _ (show 6 * r + i < 96 by omega) (by decide), lt_e, nI_clamp (show s r + i < 2 ^ 31 by omega), nI_clamp (show 6 * r + i < 2 ^ 31 by omega), c1, c4, bd_e _ g1]
    -- the rest, with what the predicates are now
    have fin : ∀ ki1 wi1 : Nat → Int32, (∀ p, p < 10 → ki1 p = nI (sof X (s r + (i + 1)) p)) → (∀ p, p < 10 → wi1 p = nI (arw X (s r + (i + 1)) p)) → ∃ ps' pp' pts' tO' ki' wi', M_Model_adopt_L78 F firstPart partMany sort predicate firstTerm termMany mterm (nI r) f (nI (i + 1)) (upd ps (6 * r + i) (nI ((X (s r + i)).kd - 1))) (upd pp (6 * r + i) (predicate (s r + i))) (upd pts (6 * r + i) (nI (X (s r + i)).wd)) tO1 ki1 wi1 = some (ps', pp', pts', tO', ki', wi') ∧ (∀ x, i ≤ x → x < s (r + 1) - s r → RP X s R mterm r x ps' pp' pts' tO') ∧ (∀ y, (y < 6 * r + i ∨ 6 * r + 6 ≤ y) → ps' y = ps y ∧ pp' y = pp y ∧ pts' y = pts y) ∧ (∀ y, (y < 3 * (6 * r + i) ∨ 3 * (6 * r + 6) ≤ y) → tO' y = tO y) ∧ (∀ p, p < 10 → ki' p = nI (sof X (s (r + 1)) p)) ∧ ∀ p, p < 10 → wi' p = nI (arw X (s (r + 1)) p) := fun ki1 wi1 q1 q2 => by
      obtain ⟨ps', pp', pts', tO', ki', wi', k1, k2, k3, k4, k5, k6⟩ := S_ad78 h hn h480 hF hr hr16 hK d (i + 1) f (upd ps (6 * r + i) (nI ((X (s r + i)).kd - 1))) (upd pp (6 * r + i) (predicate (s r + i))) (upd pts (6 * r + i) (nI (X (s r + i)).wd)) tO1 ki1 wi1 (by omega) (by omega) q1 q2
      refine ⟨ps', pp', pts', tO', ki', wi', k1, fun x x1 x2 => ?_, fun y hy => ?_, fun y hy => ?_, k5, k6⟩
      · by_cases cx : x = i
        · subst cx
          obtain ⟨m1, m2, m3⟩ := k3 (6 * r + x) (by omega)
          refine ⟨by rw [m1, pk_us], fun z => by rw [m2, pk_us]; exact c2 z, by rw [m3, pk_us], fun t ht => ?_⟩
          rw [k4 _ (by omega)]
          exact g2 t (Nat.zero_le _) ht
        · exact k2 x (by omega) x2
      · obtain ⟨m1, m2, m3⟩ := k3 y (by omega)
        rw [m1, m2, m3, pk_un (by omega), pk_un (by omega), pk_un (by omega)]
        exact ⟨rfl, rfl, rfl⟩
      · rw [k4 y (by omega)]
        exact g3 y (by omega)
    rw [head, bd_e _ (S_isAtomM h.1 hn hen)]
    by_cases ck : (X (s r + i)).kd ≤ 2
    · have p10 := a4 ck
      have hsl := sof_le X (s r + i) (X (s r + i)).pd
      have qw : ∀ p, p < 10 → (upd wi (X (s r + i)).pd (nI (X (s r + i)).wd)) p = nI (arw X (s r + (i + 1)) p) := fun p hp => by
        rw [w0]
        by_cases cp : p = (X (s r + i)).pd
        · rw [cp, pk_us, if_pos ⟨ck, rfl⟩]
        · rw [pk_un cp, if_neg (fun z => cp z.2.symm)]; exact hwi p hp
      have qk : ∀ x, x = sof X (s r + (i + 1)) (X (s r + i)).pd → ∀ p, p < 10 → (upd ki (X (s r + i)).pd (nI x)) p = nI (sof X (s r + (i + 1)) p) := fun x hx p hp => by
        by_cases cp : p = (X (s r + i)).pd
        · rw [cp, pk_us, hx]
        · rw [pk_un cp, e0, if_neg (fun z => cp z.2.symm)]; exact hki p hp
      rw [decide_eq_true ck, if_neg bI_t, gd_n _ (show s r + i < 260 by omega) (by decide), lt_e, c2 ck, gd_n _ (show s r + i < 260 by omega) (by decide), gd_n _ p10 (by decide), lt_e, nI_clamp (show (X (s r + i)).pd < 2 ^ 31 by omega), hki _ p10]
      by_cases ci : i = 0
      · rw [if_pos (show nI i = (0 : Int32) by rw [ci]; rfl), gd_n _ p10 (by decide), lt_e, lt_e, nI_1, ← c2 ck]
        exact fin _ _ (qk 2 (by rw [e0, if_pos ⟨ck, rfl⟩, if_pos (i0.mpr ci)])) qw
      · have k0 : ¬ (X (s r + i)).kd = 0 := fun z => ci (i0.mp z)
        rw [if_neg (show ¬ nI i = (0 : Int32) from fun z => ci ((nI_eq (b := 0) (by omega) (by decide)).mp z)), gd_n _ p10 (by decide)]
        by_cases c2' : sof X (s r + i) (X (s r + i)).pd = 2
        · rw [if_pos (show nI (sof X (s r + i) (X (s r + i)).pd) = (2 : Int32) by rw [c2']; rfl), gd_n _ p10 (by decide), lt_e, lt_e, nI_1, ← c2 ck]
          exact fin _ _ (qk 2 (by rw [e0, if_pos ⟨ck, rfl⟩, if_neg k0, c2']; rfl)) qw
        · rw [if_neg (show ¬ nI (sof X (s r + i) (X (s r + i)).pd) = (2 : Int32) from fun z => c2' ((nI_eq (b := 2) (by omega) (by decide)).mp z)), gd_n _ p10 (by decide), lt_e, lt_e, nI_1, ← c2 ck]
          exact fin _ _ (qk 1 (by
            rw [e0, if_pos ⟨ck, rfl⟩, if_neg k0]
            split
            · rfl
            · omega)) qw
    · rw [decide_eq_false ck, if_pos bI_f, lt_e, nI_1]
      exact fin ki wi (fun p hp => by rw [hki p hp, e0, if_neg (fun z => ck z.1)]) (fun p hp => by rw [hwi p hp, w0, if_neg (fun z => ck z.1)])
theorem S_ad45 (h : ST X s R n kind place who width term start firstPart partMany rulePlace sort predicate firstTerm termMany partPlace mterm) (hn : n ≤ 240) (h480 : tw_ X n ≤ 480) (hF : 480 < F) {re : Nat → Int32} (g : GX X s R n re) : ∀ (d j f : Nat) (pc ps pp pts tO vc ki wi : Nat → Int32), j + d = R → d < f → (∀ p, p < 10 → ki p = nI (sof X (s j) p)) → (∀ p, p < 10 → wi p = nI (arw X (s j) p)) → (∀ r, r < j → pc r = nI (s (r + 1) - s r - 1) ∧ vc r = nI (nvr X s r) ∧ ∀ i, i < s (r + 1) - s r → RP X s R mterm r i ps pp pts tO) → ∃ pc' ps' pp' pts' tO' vc' ki' wi', M_Model_adopt_L45 F (nI R) firstPart partMany sort predicate firstTerm termMany mterm f (nI j) pc ps pp pts tO vc ki wi = some (pc', ps', pp', pts', tO', vc', ki', wi') ∧ (∀ p, p < 10 → ki' p = nI (sof X n p)) ∧ (∀ p, p < 10 → wi' p = nI (arw X n p)) ∧ ∀ r, r < R → pc' r = nI (s (r + 1) - s r - 1) ∧ vc' r = nI (nvr X s r) ∧ ∀ i, i < s (r + 1) - s r → RP X s R mterm r i ps' pp' pts' tO'
  | 0, j, f, pc, ps, pp, pts, tO, vc, ki, wi, hj, hf, hki, hwi, hd => by
    obtain ⟨f, rfl⟩ : ∃ m, f = m + 1 := ⟨f - 1, by omega⟩
    have hR := h.2.2.2.1
    have : j = R := by omega
    subst this
    rw [h.2.2.1] at hki hwi
    unfold M_Model_adopt_L45
    rw [if_pos (nI_le (Nat.le_refl j) (by omega))]
    exact ⟨pc, ps, pp, pts, tO, vc, ki, wi, rfl, hki, hwi, hd⟩
  | d + 1, j, f, pc, ps, pp, pts, tO, vc, ki, wi, hj, hf, hki, hwi, hd => by
    obtain ⟨f, rfl⟩ : ∃ m, f = m + 1 := ⟨f - 1, by omega⟩
    have hR := h.2.2.2.1
    have hjR : j < R := by omega
    obtain ⟨g16, gK, -⟩ := g.2.1 j hjR
    obtain ⟨b1, b2, b3, b4, b5, b6, b7, b8⟩ := h.2.2.2.2.2 j hjR
    have ev := S_variables (F := F) h hn h480 hF hjR
    obtain ⟨ps1, pp1, pts1, tO1, ki1, wi1, k1, k2, k3, k4, k5, k6⟩ := S_ad78 (F := F) h hn h480 hF hjR g16 gK (s (j + 1) - s j) 0 F ps pp pts tO ki wi (by omega) (by omega) hki hwi
    have k1 : M_Model_adopt_L78 F firstPart partMany sort predicate firstTerm termMany mterm (nI j) F (0 : Int32) ps pp pts tO ki wi = _ := k1
    unfold M_Model_adopt_L45
    rw [if_neg (nI_ge (a := j) (b := R) hjR (by omega)), gd_n _ (show j < 250 by omega) (by decide), gd_n _ g16 (by decide), lt_e, bd_e _ ev, gd_n _ g16 (by decide), lt_e, bd_e _ k1, lt_e, nI_1, nI_clamp (show j < 2 ^ 31 by omega), b5]
    refine S_ad45 h hn h480 hF g d (j + 1) f _ ps1 pp1 pts1 tO1 _ ki1 wi1 (by omega) (by omega) k5 k6 (fun r hr => ?_)
    by_cases cr : r = j
    · subst cr
      rw [pk_us, pk_us]
      exact ⟨rfl, rfl, fun i hi => k2 i (Nat.zero_le _) hi⟩
    · obtain ⟨q1, q2, q3⟩ := hd r (by omega)
      obtain ⟨h16, hK, -⟩ := g.2.1 r (by omega)
      rw [pk_un cr, pk_un cr]
      refine ⟨q1, q2, fun i hi => ?_⟩
      obtain ⟨m1, m2, m3⟩ := k3 (6 * r + i) (by omega)
      obtain ⟨z1, z2, z3, z4⟩ := q3 i hi
      have w3 := (h.1 (s r + i) (by have := (h.2.2.2.2.2 r (by omega)).2.1; omega)).1.2.1
      exact ⟨by rw [m1]; exact z1, fun y => by rw [m2]; exact z2 y, by rw [m3]; exact z3, fun t ht => by rw [k4 _ (by omega)]; exact z4 t ht⟩
theorem S_ad10 : ∀ (d j f : Nat) (ki wi st : Nat → Int32), j + d = 10 → d < f → (∀ p, p < j → ki p = 0 ∧ wi p = 0) → ∃ ki' wi' st', M_Model_adopt_L10 F f (nI j) ki wi st = some (ki', wi', st') ∧ ∀ p, p < 10 → ki' p = 0 ∧ wi' p = 0
  | 0, j, f, ki, wi, st, hj, hf, h => by
    obtain ⟨f, rfl⟩ : ∃ m, f = m + 1 := ⟨f - 1, by omega⟩
    have : j = 10 := by omega
    subst this
    unfold M_Model_adopt_L10
    rw [if_pos (by decide +kernel)]
    exact ⟨ki, wi, st, rfl, h⟩
  | d + 1, j, f, ki, wi, st, hj, hf, h => by
    obtain ⟨f, rfl⟩ : ∃ m, f = m + 1 := ⟨f - 1, by omega⟩
    have hj2 : j < 10 := by omega
    unfold M_Model_adopt_L10
    rw [if_neg (show ¬ (10 : Int32) ≤ nI j from nI_ge (a := j) (b := 10) hj2 (by decide)), gd_n _ hj2 (by decide), lt_e, gd_n _ hj2 (by decide), lt_e, gd_n _ hj2 (by decide), lt_e, lt_e, nI_1, nI_clamp (show j < 2 ^ 31 by omega)]
    refine S_ad10 d (j + 1) f _ _ _ (by omega) (by omega) (fun p hp => ?_)
    by_cases c : p = j
    · subst c; rw [pk_us, pk_us]; exact ⟨rfl, rfl⟩
    · rw [pk_un c, pk_un c]; exact h p (by omega)
end
