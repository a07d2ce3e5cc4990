/-! compile alike -/
theorem TP_CH {text tape : Nat → Int32} {len : Nat} (h : TP text tape len) (hl : len ≤ 480) : CH (fun i => (text i).toNatClampNeg) text tape len := ⟨hl, fun i hi => by
  obtain ⟨c, c1, c2, c3, c4⟩ := h i hi
  have e : (text i).toNatClampNeg = c := by rw [c3, nI_clamp (show c < 2 ^ 31 by omega)]
  show (32 ≤ (text i).toNatClampNeg ∧ (text i).toNatClampNeg ≤ 126) ∧ text i = nI (text i).toNatClampNeg ∧ tape i = nI (text i).toNatClampNeg
  rw [e]
  exact ⟨⟨c1, c2⟩, c3, c4⟩⟩
theorem S_comp56 {F : Nat} : ∀ (d j f : Nat) (holds kept : Nat → Int32), j + d = 17280 → d < f → ∃ holds' kept', M_Model_compile_L56 F f (nI j) holds kept = some (holds', kept') ∧ ∀ i, i < 17280 → holds' i = (if j ≤ i then 0 else holds i) ∧ kept' i = (if j ≤ i then 0 else kept i)
  | 0, j, f, holds, kept, hj, hf => by
    obtain ⟨f, rfl⟩ : ∃ m, f = m + 1 := ⟨f - 1, by omega⟩
    have : j = 17280 := by omega
    subst this
    unfold M_Model_compile_L56
    rw [if_pos (by decide +kernel)]
    exact ⟨holds, kept, rfl, fun i hi => by rw [if_neg (by omega), if_neg (by omega)]; exact ⟨rfl, rfl⟩⟩
  | d + 1, j, f, holds, kept, hj, hf => by
    obtain ⟨f, rfl⟩ : ∃ m, f = m + 1 := ⟨f - 1, by omega⟩
    have hj2 : j < 17280 := by omega
    have n0 : vp_nar .boolean (0 : Int32) = 0 := by decide +kernel
    unfold M_Model_compile_L56
    rw [if_neg (show ¬ (17280 : Int32) ≤ nI j from nI_ge (a := j) (b := 17280) hj2 (by decide)), gd_n _ hj2 (by decide), lt_e, gd_n _ hj2 (by decide), lt_e, lt_e, nI_1, nI_clamp (show j < 2 ^ 31 by omega), n0]
    obtain ⟨h', k', e, g⟩ := S_comp56 (F := F) d (j + 1) f (upd holds j 0) (upd kept j 0) (by omega) (by omega)
    refine ⟨h', k', e, fun i hi => ?_⟩
    rw [(g i hi).1, (g i hi).2, upd_fn, upd_fn]
    by_cases c : i = j
    · subst c
      rw [if_neg (by omega), if_pos rfl, if_pos (Nat.le_refl i), if_neg (by omega), if_pos rfl, if_pos (Nat.le_refl i)]
      exact ⟨rfl, rfl⟩
    · rw [if_neg c, if_neg c]
      by_cases c2 : j ≤ i
      · rw [if_pos c2, if_pos (by omega), if_pos (by omega), if_pos (by omega)]; exact ⟨rfl, rfl⟩
      · rw [if_neg c2, if_neg (by omega), if_neg (by omega), if_neg (by omega)]; exact ⟨rfl, rfl⟩
theorem S_comp89 {F : Nat} {holds : Nat → Int32} (h01 : ∀ i, i < 17280 → ∃ b, holds i = bI b) : ∀ (d j f : Nat) (held : Nat → Int32), j + d = 17280 → d < f → ∃ held', M_Model_compile_L89 F holds f (nI j) held = some held'
  | 0, j, f, held, hj, hf => by
    obtain ⟨f, rfl⟩ : ∃ m, f = m + 1 := ⟨f - 1, by omega⟩
    have : j = 17280 := by omega
    subst this
    unfold M_Model_compile_L89
    rw [if_pos (by decide +kernel)]
    exact ⟨held, rfl⟩
  | d + 1, j, f, held, hj, hf => by
    obtain ⟨f, rfl⟩ : ∃ m, f = m + 1 := ⟨f - 1, by omega⟩
    have hj2 : j < 17280 := by omega
    unfold M_Model_compile_L89
    rw [if_neg (show ¬ (17280 : Int32) ≤ nI j from nI_ge (a := j) (b := 17280) hj2 (by decide)), gd_n _ hj2 (by decide), gd_n _ hj2 (by decide), lt_e, lt_e, nI_1]
    exact S_comp89 h01 d (j + 1) f _ (by omega) (by omega)
section
variable {F : Nat} {text tape : Nat → Int32} {len : Nat}
/-- what is known of the program in use -/
def PX (R : Nat) (kind who width term start sort arity stratum reach pc ps pp pts termOf vc kd wi strat nw : Nat → Int32) : Prop := ∃ (P : AP) (st so s : Nat → Nat) (ix lx : Nat → Nat → Nat) (mv : Nat → Nat), P.R = R ∧ PG P st so s ix lx mv kind who width term start sort arity stratum reach pc ps pp pts termOf vc kd wi strat ∧ P.ixb ix lx mv ∧ (∀ r, r < P.R → arity (P.pd r 0) = nI (P.wd r 0)) ∧ DM P st so nw
theorem E_compile (ht : TP text tape len) (hl : len ≤ 480) (hF : 24506 < F) {safe fnd plc dsz drl rda rdw x1 x2 x3 x4 x5 x6 : Int32} {nw nwc be bec sv svc dk dp dw dwd dt ds dso dar dst dre fr frc la lac value plan : Nat → Int32} {th mfault mplace mat mrules mparts mterms rc0 mch msafe wanted count fresh : Int32} {firstPart partMany rulePlace sort predicate firstTerm termMany partPlace mterm depends pc ps pp pts tO vc ki wi strat holds held kept mval : Nat → Int32} {K lg : Nat} (hs0 : ds 0 = 0) (hv : VV value (fun _ => 0)) (on : FSok nw nwc) (os : FSok sv svc) (of : FSok fr frc) (ol : FSok la lac) (hfr : ∀ q k, ¬ FS fr q k) (hK : K ≤ 64) (hlg : lg ≤ 96) :
    (∃ f fp dk' dp' dw' dwd' dt' ds' dsz' drl' dso' dar' dre' rda' rdw' b1 b2 b3 b4 b5 b6 b7 b8 b9 b10 b11 b12 b13 b14, M_Hall_compile F safe text (nI len) fnd plc nw nwc be bec sv svc (nI K) (nI lg) dk dp dw dwd dt ds dsz drl dso dar dst dre rda rdw fr frc la lac value plan x1 x2 x3 x4 x5 x6 = some (.inr (safe, 0, f, fp, nw, nwc, be, bec, sv, svc, nI K, nI lg, dk', dp', dw', dwd', dt', ds', dsz', drl', dso', dar', dst, dre', rda', rdw', fr, frc, la, lac, value, plan, x1, x2, x3, x4, x5, x6)) ∧ M_Model_compile F th tape (nI len) mfault mplace mat mrules firstPart partMany rulePlace mparts sort predicate firstTerm termMany partPlace mterms mterm depends rc0 pc ps pp pts tO vc ki wi strat holds held kept mch (nI K) (nI lg) msafe mval wanted count fresh = some (0, 1, 0, f, fp, b1, b2, b3, b4, b5, b6, b7, b8, b9, b10, b11, b12, b13, b14, rc0, pc, ps, pp, pts, tO, vc, ki, wi, strat, holds, held, kept, mch, nI K, nI lg, msafe, mval, wanted, count, fresh) ∧ ds' 0 = 0) ∨
    (∃ R nw' nwc' be' bec' sv' svc' dk' dp' dw' dwd' dt' ds' dsz' dso' dar' dst' dre' rda' rdw' fr' frc' la' lac' plan' y1 y2 y3 y4 y5 y6 b1 b2 b3 b4 b5 b6 b7 b8 b9 b10 b11 b12 b13 b14 pc' ps' pp' pts' tO' vc' ki' wi' strat' holds' held' kept' mval' fresh', M_Hall_compile F safe text (nI len) fnd plc nw nwc be bec sv svc (nI K) (nI lg) dk dp dw dwd dt ds dsz drl dso dar dst dre rda rdw fr frc la lac value plan x1 x2 x3 x4 x5 x6 = some (.inl (nI R, 0, 0, 0, 0, nw', nwc', be', bec', sv', svc', nI 0, nI 0, dk', dp', dw', dwd', dt', ds', dsz', nI R, dso', dar', dst', dre', rda', rdw', fr', frc', la', lac', value, plan', y1, y2, y3, y4, y5, y6)) ∧ M_Model_compile F th tape (nI len) mfault mplace mat mrules firstPart partMany rulePlace mparts sort predicate firstTerm termMany partPlace mterms mterm depends rc0 pc ps pp pts tO vc ki wi strat holds held kept mch (nI K) (nI lg) msafe mval wanted count fresh = some (nI R, 0, 0, 0, 0, b1, b2, b3, b4, b5, b6, b7, b8, b9, b10, b11, b12, b13, b14, nI R, pc', ps', pp', pts', tO', vc', ki', wi', strat', holds', held', kept', 0, 0, 0, 0, mval', -1, count, fresh') ∧ FSok nw' nwc' ∧ FSok be' bec' ∧ FSok sv' svc' ∧ FSok fr' frc' ∧ FSok la' lac' ∧ (∀ q k, ¬ FS fr' q k) ∧ RS nw' holds' ∧ RS sv' kept' ∧ BO ki' sv' ∧ (∀ p n, p < 10 → n < 1728 → fx nw' be' p n = false) ∧ ds' 0 = 0 ∧ PX R dk' dw' dwd' dt' ds' dso' dar' dst' dre' pc' ps' pp' pts' tO' vc' ki' wi' strat' nw') := by
  have hc := TP_CH ht hl
  have hsk := S_skip (F := F) hc (by omega) (i := 0) (Nat.zero_le _)
  have hsk : M_Model_skip F tape (nI len) (0 : Int32) = some (nI (sk (fun i => (text i).toNatClampNeg) len 0)) := hsk
  have rl := E_readL (F := F) hc (by omega) (depends := depends) (f := 0) (fp := 0) len 0 0 0 0 F F (fun _ => En.mk 0 0 0 0 (fun _ => 0)) (fun _ => 0) dk dp dw dwd dt ds firstPart partMany rulePlace sort predicate firstTerm termMany partPlace mterm (by omega) (by omega) (by omega) (Nat.zero_le _) (by omega) (by omega) (by omega) ⟨fun e he => absurd he (Nat.not_lt_zero e), rfl, rfl, Nat.le_refl 0, hs0, fun r hr => absurd hr (Nat.not_lt_zero r)⟩
  rcases rl with ⟨r, q, p, e1, e2, h1, h2, h3, h4, h5, h6⟩ | ⟨a, b, R, n, X, s, dk1, dp1, dw1, dwd1, dt1, ds1, fP, pM, rP, so1, pr1, fT, tM, pP, mt, e1, e2, hn, hT, hS⟩
  · obtain ⟨r1, r2, dk1, dp1, dw1, dwd1, dt1, ds1, dsz1, drl1⟩ := r
    obtain ⟨q1, q2, q3, b1, b2, b3, b4, b5, b6, b7, b8, b9, b10, b11, b12, b13, b14⟩ := q
    have h1 : r2 = nI p := h1
    have h2 : q1 = 0 := h2
    have h3 : q2 = 1 := h3
    have h4 : q3 = nI p := h4
    subst h1 h2 h3 h4
    have e1 : M_Reader_read_L24 F text (nI len) F (0 : Int32) (0 : Int32) (-1 : Int32) dk dp dw dwd dt ds (0 : Int32) (0 : Int32) = some (r1, nI p, dk1, dp1, dw1, dwd1, dt1, ds1, dsz1, drl1) := e1
    have e2 : M_Model_read_L24 F tape (nI len) depends F (0 : Int32) (0 : Int32) (nI (sk (fun i => (text i).toNatClampNeg) len 0)) (0 : Int32) firstPart partMany rulePlace (0 : Int32) sort predicate firstTerm termMany partPlace (0 : Int32) mterm = some (.inr (0, 1, nI p, b1, b2, b3, b4, b5, b6, b7, b8, b9, b10, b11, b12, b13, b14)) := e2
    refine Or.inl ⟨1, nI p, dk1, dp1, dw1, dwd1, dt1, ds1, dsz1, drl1, dso, dar, dre, r1, nI p, b1, b2, b3, b4, b5, b6, b7, b8, b9, b10, b11, b12, b13, b14, ?_, ?_, h6⟩
    · have rd : M_Reader_read F rda rdw text (nI len) dk dp dw dwd dt ds dsz drl = some (nI p, r1, nI p, dk1, dp1, dw1, dwd1, dt1, ds1, dsz1, drl1) := by
        unfold M_Reader_read
        rw [bd_e _ (show M_Program_clear dsz drl = some ((0 : Int32), (0 : Int32)) from rfl)]
        show bd_ (M_Reader_read_L24 F text (nI len) F (0 : Int32) (0 : Int32) (-1 : Int32) dk dp dw dwd dt ds (0 : Int32) (0 : Int32)) _ = _
        rw [bd_e _ e1]
      have ins : M_Inspector_inspect F fnd plc dk1 dp1 dw1 dwd1 dt1 ds1 dsz1 drl1 dso dar dre (nI p) = some (1, nI p, dso, dar, dre) := by
        unfold M_Inspector_inspect
        rw [if_neg (nI_nm1 (by omega))]
      unfold M_Hall_compile
      rw [bd_e _ rd, bd_e _ (show M_Tape_clear (nI len) = some (0 : Int32) from rfl)]
      show bd_ (M_Inspector_inspect F fnd plc dk1 dp1 dw1 dwd1 dt1 ds1 dsz1 drl1 dso dar dre (nI p)) _ = _
      rw [bd_e _ ins, bd_e _ (show M_Inspector_found (1 : Int32) = some (1 : Int32) from rfl), if_neg (show ¬ (1 : Int32) = 0 by decide)]
    · have rd : M_Model_read F tape (nI len) (0 : Int32) (0 : Int32) mat mrules firstPart partMany rulePlace mparts sort predicate firstTerm termMany partPlace mterms mterm depends = some (0, 1, nI p, b1, b2, b3, b4, b5, b6, b7, b8, b9, b10, b11, b12, b13, b14) := by
        unfold M_Model_read
        rw [bd_e _ hsk, bd_e _ e2]
        rfl
      unfold M_Model_compile
      rw [bd_e _ rd, if_pos (show (0 : Int32) = 0 from rfl)]
      rfl
  · have e1 : M_Reader_read_L24 F text (nI len) F (0 : Int32) (0 : Int32) (-1 : Int32) dk dp dw dwd dt ds (0 : Int32) (0 : Int32) = some (a, -1, dk1, dp1, dw1, dwd1, dt1, ds1, nI n, nI R) := e1
    have e2 : M_Model_read_L24 F tape (nI len) depends F (0 : Int32) (0 : Int32) (nI (sk (fun i => (text i).toNatClampNeg) len 0)) (0 : Int32) firstPart partMany rulePlace (0 : Int32) sort predicate firstTerm termMany partPlace (0 : Int32) mterm = some (.inl (0, 0, b, nI R, fP, pM, rP, nI n, so1, pr1, fT, tM, pP, nI (tw_ X n), mt)) := e2
    have rd : M_Reader_read F rda rdw text (nI len) dk dp dw dwd dt ds dsz drl = some (-1, a, -1, dk1, dp1, dw1, dwd1, dt1, ds1, nI n, nI R) := by
      unfold M_Reader_read
      rw [bd_e _ (show M_Program_clear dsz drl = some ((0 : Int32), (0 : Int32)) from rfl)]
      show bd_ (M_Reader_read_L24 F text (nI len) F (0 : Int32) (0 : Int32) (-1 : Int32) dk dp dw dwd dt ds (0 : Int32) (0 : Int32)) _ = _
      rw [bd_e _ e1]
    have hn2 : n ≤ 240 := by omega
    have s10 : ds1 0 = 0 := hS.2.2.2.2.1
    obtain ⟨so', ar', re', dep, i1, i2, i3⟩ := E_inspect (F := F) hS hn2 hT (by omega) (so := dso) (ar := dar) (re := dre) (fd0 := fnd) (pl0 := plc) (a1 := mat) (a2 := mrules) (a6 := mparts) (a13 := mterms) hsk e2
    rcases i3 with ⟨k, x, Q, k1, k2, hx, j1, j2⟩ | ⟨j1, j2, g⟩
    · obtain ⟨b1, b2, b3, b4, b5, b6, b7, b8, b9, b10, b11, b12, b13, b14⟩ := Q
      refine Or.inl ⟨nI k, nI (X x).pl, dk1, dp1, dw1, dwd1, dt1, ds1, nI n, nI R, so', ar', re', a, -1, b1, b2, b3, b4, b5, b6, b7, b8, b9, b10, b11, b12, b13, b14, ?_, ?_, s10⟩
      · unfold M_Hall_compile
        rw [bd_e _ rd, bd_e _ (show M_Tape_clear (nI len) = some (0 : Int32) from rfl)]
        show bd_ (M_Inspector_inspect F fnd plc dk1 dp1 dw1 dwd1 dt1 ds1 (nI n) (nI R) dso dar dre (-1)) _ = _
        rw [bd_e _ j1, bd_e _ (show M_Inspector_found (nI k) = some (nI k) from rfl), if_neg (show ¬ nI k = (0 : Int32) from fun z => by have := (nI_eq (a := k) (b := 0) (by omega) (by decide)).mp z; omega)]
      · unfold M_Model_compile
        rw [bd_e _ j2, if_pos (show (0 : Int32) = 0 from rfl)]
        rfl
    · obtain ⟨pc', ps', pp', pts', tO', vc', ki', wi', st', W, a1, a2, a3, a4, a5, w⟩ := S_adopt (F := F) hS hn2 hT (by omega) g (rc0 := rc0) (pc := pc) (ps := ps) (pp := pp) (pts := pts) (tO := tO) (vc := vc) (ki := ki) (wi := wi) (st := strat)
      obtain ⟨dst', r1, r2⟩ := S_rankStrata (F := F) hS hn2 (by omega) g i1 w (st := dst)
      obtain ⟨pg, ixb, har⟩ := PG_X hS hn2 g w a2 i1 i2 r2 a3 a4 a5
      obtain ⟨nw0, nwc0, n1, n2, n3⟩ := S_clear (F := F) (by omega) on
      obtain ⟨sv0, svc0, v1, v2, v3⟩ := S_clear (F := F) (by omega) os
      obtain ⟨h0, kp0, c1, c2⟩ := S_comp56 (F := F) 17280 0 F holds kept rfl (by omega)
      have c1 : M_Model_compile_L56 F F (0 : Int32) holds kept = some (h0, kp0) := c1
      have hPI := PI_X hS g w
      have b1023 : ∀ b, b < 10 → bt (1023 : Int32) b = true := by decide +kernel
      have hnf : ∀ q k, ¬ FS nw0 q k := fun q k z => by
        obtain ⟨w1, w2, w3⟩ := FS_iff.mp z
        rw [n3 q k w1 w2] at w3
        exact absurd w3 (by decide)
      obtain ⟨p1, fa1, fac1, fr1, frc1, la1, lac1, y1, y2, y3, y4, y5, y6, hol2, mv2, f2, e3, e4, o1, o2, o3, o4, o5, o6⟩ := E_refresh (F := F) (fa := nw0) (fac := nwc0) (plan := plan) (x1 := x1) (x2 := x2) (x3 := x3) (x4 := x4) (x5 := x5) (x6 := x6) (m := 1023) (wanted := wanted) (count := count) (fresh := fresh) (mval := mval) (holds := h0) (B0 := fun _ _ => False) pg hF hv n2 of ol hfr (fun p n hp hn => by
        rw [(c2 (1728 * p + n) (by omega)).1, if_pos (Nat.zero_le _), n3 p n hp hn]
        rfl) (fun p n z y => by
        by_cases hp : p < 10
        · exact absurd ⟨hp, z, p, by omega, hPI.2.2.2.2.2.2.2 p hp (Or.inl z), b1023 p hp⟩ y
        · rw [hPI.2.2.2.2.2.1 p (by omega)] at z
          exact absurd z (by decide)) (fun p hp z n => absurd (b1023 p hp) z) (fun p n z => z.elim)
      have e3 : M_Deducer_refresh F value plan x1 x2 x3 x4 x5 x6 nw0 nwc0 fr frc la lac dk1 dw1 dwd1 dt1 ds1 (nI R) so' dst' re' 1023 = _ := e3
      have e4 : M_Model_derive F (nI R) pc' ps' pp' pts' tO' vc' ki' st' h0 mval wanted count fresh = _ := e4
      obtain ⟨be1, bec1, m1, m2, m3⟩ := S_copyAll (row := be) (count := bec) (row2 := fa1) (count2 := fac1)
      obtain ⟨held1, c3⟩ := S_comp89 (F := F) (RS01 o4) 17280 0 F held rfl (by omega)
      have c3 : M_Model_compile_L89 F hol2 F (0 : Int32) held = some held1 := c3
      have rv : RS sv0 kp0 := fun p n hp hn => by
        rw [(c2 (1728 * p + n) (by omega)).2, if_pos (Nat.zero_le _), v3 p n hp hn]
        rfl
      refine Or.inr ⟨R, fa1, fac1, be1, bec1, sv0, svc0, dk1, dp1, dw1, dwd1, dt1, ds1, nI n, so', ar', dst', re', a, -1, fr1, frc1, la1, lac1, p1, y1, y2, y3, y4, y5, y6, b, nI R, fP, pM, rP, nI n, so1, pr1, fT, tM, pP, nI (tw_ X n), mt, dep, pc', ps', pp', pts', tO', vc', ki', wi', st', hol2, held1, kp0, mv2, f2, ?_, ?_, o1, FSok_copy m2 m3 o1, v2, o2, o3, o6, o4, rv, fun p n hp hn _ => v3 p n hp hn, fun p n hp hn => ?_, s10, ⟨apX X s R, W, sof X n, s, ixX X s mt, lxX X s mt, nvr X s, rfl, pg, ixb, har, o5⟩⟩
      · have td : M_Hall_takeDraft F safe nw nwc sv svc (nI K) (nI lg) dk1 dw1 ds1 (nI R) so' dst = some (0, nw0, nwc0, sv0, svc0, nI 0, nI 0, dst') := by
          unfold M_Hall_takeDraft
          rw [bd_e _ r1, bd_e _ (show M_Deducer_use = some () from rfl), bd_e _ n1, bd_e _ v1, bd_e _ (show M_Journal_shorten (nI K) (0 : Int32) = some (nI 0) from S_shorten (by omega) (Nat.zero_le K)), bd_e _ (show M_Journal_shorten (nI lg) (0 : Int32) = some (nI 0) from S_shorten (by omega) (Nat.zero_le lg))]
        unfold M_Hall_compile
        rw [bd_e _ rd, bd_e _ (show M_Tape_clear (nI len) = some (0 : Int32) from rfl)]
        show bd_ (M_Inspector_inspect F fnd plc dk1 dp1 dw1 dwd1 dt1 ds1 (nI n) (nI R) dso dar dre (-1)) _ = _
        rw [bd_e _ j1, bd_e _ (show M_Inspector_found (0 : Int32) = some (0 : Int32) from rfl), if_pos (show (0 : Int32) = 0 from rfl)]
        show bd_ (M_Hall_takeDraft F safe nw nwc sv svc (nI K) (nI lg) dk1 dw1 ds1 (nI R) so' dst) _ = _
        rw [bd_e _ td]
        show bd_ (M_Deducer_refresh F value plan x1 x2 x3 x4 x5 x6 nw0 nwc0 fr frc la lac dk1 dw1 dwd1 dt1 ds1 (nI R) so' dst' re' 1023) _ = _
        rw [bd_e _ e3]
        show bd_ (M_FactSet_copyAll be bec fa1 fac1) _ = _
        rw [bd_e _ m1]
      · unfold M_Model_compile
        rw [bd_e _ j2, if_neg (show ¬ (1 : Int32) = 0 by decide)]
        show bd_ (M_Model_adopt F (nI R) fP pM so1 pr1 fT tM mt rc0 pc ps pp pts tO vc ki wi strat) _ = _
        rw [bd_e _ a1, bd_e _ c1]
        show bd_ (M_Model_derive F (nI R) pc' ps' pp' pts' tO' vc' ki' st' h0 mval wanted count fresh) _ = _
        rw [bd_e _ e4]
        show bd_ (M_Model_compile_L89 F hol2 F (0 : Int32) held) _ = _
        rw [bd_e _ c3]
      · have : fh be1 p n = fh fa1 p n := fh_rows m2 hp hn
        show (fh fa1 p n ^^ fh be1 p n) = false
        rw [this]
        cases fh fa1 p n <;> rfl
end
