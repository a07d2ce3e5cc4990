/-! commit and crash alike -/
def PG (P : AP) (st so s : Nat → Nat) (ix lx : Nat → Nat → Nat) (mv : Nat → Nat) (kind who width term start sort arity stratum reach pc ps pp pts termOf vc kd wi strat : Nat → Int32) : Prop := P.ok ∧ P.safe ∧ P.ixo ix mv ∧ P.ixl ix lx ∧ PC P s kind who width term start ∧ RM P ix mv pc ps pp pts termOf vc ∧ PI P st so reach ∧ (∀ p, p < 10 → sort p = nI (so p) ∧ stratum p = nI (st p)) ∧ PRel sort arity stratum kd wi strat
/-- all facts follow from the BASE facts -/
def DM (P : AP) (st so : Nat → Nat) (now : Nat → Int32) : Prop := ∀ q k, FS now q k ↔ P.lay st (fun q k => FS now q k ∧ so q ≠ 2) 10 q k
theorem FS_congr {a b : Nat → Int32} (h : ∀ q k, q < 10 → k < 1728 → fh a q k = fh b q k) (q k : Nat) : FS a q k ↔ FS b q k := by
  rw [FS_iff, FS_iff]
  constructor
  · rintro ⟨h1, h2, h3⟩
    exact ⟨h1, h2, by rw [← h q k h1 h2]; exact h3⟩
  · rintro ⟨h1, h2, h3⟩
    exact ⟨h1, h2, by rw [h q k h1 h2]; exact h3⟩
section
variable {F : Nat} {P : AP} {st so s : Nat → Nat} {ix lx : Nat → Nat → Nat} {mv : Nat → Nat} {kind who width term start sort arity stratum reach pc ps pp pts termOf vc kd wi strat : Nat → Int32}
theorem E_refresh (pg : PG P st so s ix lx mv kind who width term start sort arity stratum reach pc ps pp pts termOf vc kd wi strat) (hF : 24506 < F) {fa fac fr frc la lac value plan holds mval : Nat → Int32} {x1 x2 x3 x4 x5 x6 m wanted count fresh : Int32} (hv : VV value (fun _ => 0)) (oa : FSok fa fac) (of : FSok fr frc) (ol : FSok la lac) (hfr : ∀ q k, ¬ FS fr q k) (hra : RS fa holds) {B0 : Nat → Nat → Prop} (hH : ∀ p n, so p = 2 → ¬ SL so reach m p → (FS fa p n ↔ P.lay st B0 10 p n)) (hm : ∀ p, p < 10 → ¬ bt m p = true → ∀ n, (B0 p n ↔ (FS fa p n ∧ so p ≠ 2))) (h10 : ∀ p n, B0 p n → p < 10) : ∃ plan' fa' fac' fr' frc' la' lac' y1 y2 y3 y4 y5 y6 holds' mval' fresh', M_Deducer_refresh F value plan x1 x2 x3 x4 x5 x6 fa fac fr frc la lac kind who width term start (nI P.R) sort stratum reach m = some (value, plan', y1, y2, y3, y4, y5, y6, fa', fac', fr', frc', la', lac') ∧ M_Model_derive F (nI P.R) pc ps pp pts termOf vc kd strat holds mval wanted count fresh = some (holds', mval', -1, count, fresh') ∧ FSok fa' fac' ∧ FSok fr' frc' ∧ FSok la' lac' ∧ RS fa' holds' ∧ DM P st so fa' ∧ ∀ q k, ¬ FS fr' q k := by
  obtain ⟨ok, sf, io, il, hc, rm, pi, hss, pr⟩ := pg
  obtain ⟨i1, i2, i3, i4, i5, i6, i7, i8⟩ := pi
  have hk2 : ∀ p, p < 10 → (kd p = 2 ↔ so p = 2) := fun p hp => by
    rw [← (pr p hp).1, (hss p hp).1]
    exact nI_eq (a := so p) (b := 2) (by have := i3 p; omega) (by decide)
  obtain ⟨p1, fa1, fac1, fr1, frc1, la1, lac1, a1, a2, a3, a4, a5, a6, e1, o1, o2, o3, o4, o5⟩ := S_refresh (F := F) (plan := plan) (x1 := x1) (x2 := x2) (x3 := x3) (x4 := x4) (x5 := x5) (x6 := x6) (m := m) (reach := reach) ok sf hc hF i1 (fun p hp => (hss p hp).2) i2 (fun p hp => ⟨(hss p hp).1, i3 p⟩) hv oa of ol hfr
  obtain ⟨h1, v1, f1, H, e2, b1, b2⟩ := S_derive (F := F) (kind := kd) (stratum := strat) (holds := holds) (value := mval) (wanted := wanted) (count := count) (fresh := fresh) (G := fh fa) (B := fun q k => fb fa q k && !decide (so q = 2)) ok io il rm hF i1 (fun p hp => by rw [← (pr p hp).2.2.1]; exact (hss p hp).2) i2 hra (fun q k hq hk => by
    have : decide (kd q = 2) = decide (so q = 2) := decide_eq_decide.mpr (hk2 q hq)
    rw [this]
    unfold fb
    simp [hq, hk])
  have eB : GP (fun q k => fb fa q k && !decide (so q = 2)) = fun q k => FS fa q k ∧ so q ≠ 2 := by
    funext q k
    refine propext ?_
    show (fb fa q k && !decide (so q = 2)) = true ↔ (fb fa q k = true ∧ so q ≠ 2)
    simp
  rw [eB] at b2
  have o4 : ∀ q k, FS fa1 q k ↔ P.lay st (fun q k => FS fa q k ∧ so q ≠ 2) 10 q k := fun q k => (o4 q k).trans (PI_ref (B0 := B0) ok ⟨i1, i2, i3, i4, i5, i6, i7, i8⟩ (fun p n z y => y.2 z) hm (fun p n z => z.elim (fun y => (FS_iff.mp y.1).1) (h10 p n)) (fun p n => by
    by_cases c : SL so reach m p
    · exact ⟨fun z => absurd c z.2, fun z => absurd c z.2⟩
    · by_cases c2 : so p = 2
      · rw [hH p n c2 c]
        exact ⟨fun z => ⟨Or.inl ⟨c2, z.1⟩, c⟩, fun z => ⟨z.1.elim (fun y => y.2) (fun y => absurd c2 y.1), c⟩⟩
      · exact ⟨fun z => ⟨Or.inr ⟨c2, z.1, c2⟩, c⟩, fun z => ⟨z.1.elim (fun y => absurd y.1 c2) (fun y => y.2.1), c⟩⟩) q k)
  have base : ∀ q k, (FS fa1 q k ∧ so q ≠ 2) ↔ (FS fa q k ∧ so q ≠ 2) := fun q k => by
    by_cases c : so q = 2
    · exact ⟨fun z => absurd c z.2, fun z => absurd c z.2⟩
    · have s0 : st q = 0 := by have := (i4 q).mpr; omega
      rw [o4, AP.lay_low 10 (Or.inr s0)]
      exact ⟨fun z => z.1, fun z => ⟨z, c⟩⟩
  refine ⟨p1, fa1, fac1, fr1, frc1, la1, lac1, a1, a2, a3, a4, a5, a6, h1, v1, f1, e1, e2, o1, o2, o3, fun p n hp hn => ?_, fun q k => ?_, o5⟩
  · rw [b1 p n hp hn]
    refine congrArg bI ?_
    have h := (b2 p n).trans (o4 p n).symm
    rw [FS_iff] at h
    cases hf : fh fa1 p n with
    | true => exact h.mpr ⟨hp, hn, hf⟩
    | false =>
      cases hH : H p n with
      | false => rfl
      | true =>
        have := (h.mp hH).2.2
        rw [hf] at this
        exact absurd this (by decide)
  · have eb : (fun q k => FS fa1 q k ∧ so q ≠ 2) = fun q k => FS fa q k ∧ so q ≠ 2 := funext (fun q => funext (fun k => propext (base q k)))
    rw [eb]
    exact o4 q k
theorem RS01 {row holds : Nat → Int32} (h : RS row holds) : ∀ i, i < 17280 → ∃ b, holds i = bI b := fun i hi => by
  have := h (i / 1728) (i % 1728) (by omega) (by omega)
  rw [show 1728 * (i / 1728) + i % 1728 = i by omega] at this
  exact ⟨_, this⟩
theorem fh_rows {a b : Nat → Int32} (h : ∀ i, i < 1440 → a i = b i) {q k : Nat} (hq : q < 10) (hk : k < 1728) : fh a q k = fh b q k := by
  unfold fh
  rw [h _ (by omega)]
theorem FSok_copy {a ac b bc : Nat → Int32} (h : ∀ i, i < 1440 → a i = b i) (hc : ∀ p, p < 10 → ac p = bc p) (o : FSok b bc) : FSok a ac := by
  refine ⟨fun i hi => by rw [h i hi]; exact o.1 i hi, fun p hp => ?_⟩
  rw [hc p hp, o.2 p hp]
  exact congrArg nI (ct_congr (fun n hn => (fh_rows h hp hn).symm))
/-- staged puts and removes speak of BASE predicates only -/
theorem rpl_base {kd puts who number stage : Nat → Int32} {K : Nat} {G : Nat → Nat → Bool} (hj : JR kd puts who number stage K) {q k : Nat} (hq : q < 10) (hk : k < 1728) (hb : ¬ kd q = 1) : ∀ j, j ≤ K → rpl puts who number G j q k = G q k
  | 0, _ => rfl
  | j + 1, h => by
    obtain ⟨p, n, b, hp, hn, hk1, w1, w2, w3, -⟩ := hj j (by omega)
    rw [rpl_at w1 w2 w3 hp hn hq hk, if_neg (fun z => hb (by rw [z.1]; exact hk1))]
    exact rpl_base hj hq hk hb j (by omega)
theorem E_commit (pg : PG P st so s ix lx mv kind who width term start sort arity stratum reach pc ps pp pts termOf vc kd wi strat) (hF : 24506 < F) {nw nwc be bec fr frc la lac value plan holds held mval sp sw sn stage lp lw ln logs : Nat → Int32} {x1 x2 x3 x4 x5 x6 wanted count fresh th ch : Int32} {K lg : Nat} (hv : VV value (fun _ => 0)) (on : FSok nw nwc) (of : FSok fr frc) (ol : FSok la lac) (hfr : ∀ q k, ¬ FS fr q k) (hrn : RS nw holds) (dm : DM P st so nw) (hK : K ≤ 64) (hj : JR kd sp sw sn stage K) (hlg : lg ≤ 96) (hl : JR kd lp lw ln logs lg) :
    (lg + K ≤ 96 ∧ ∃ r nw' nwc' be' bec' lp' lw' ln' fr' frc' la' lac' plan' y1 y2 y3 y4 y5 y6 holds' held' logs' mval' fresh', M_Hall_commit F 64 96 nw nwc be bec sp sw sn (nI K) lp lw ln (nI lg) kind who width term start (nI P.R) sort stratum reach fr frc la lac value plan x1 x2 x3 x4 x5 x6 = some (.inl (r, nw', nwc', be', bec', nI 0, lp', lw', ln', nI (lg + K), fr', frc', la', lac', value, plan', y1, y2, y3, y4, y5, y6)) ∧ M_Model_commit F th (nI P.R) pc ps pp pts termOf vc kd strat holds held ch (nI K) stage (nI lg) logs mval wanted count fresh = some (r, 0, holds', held', 1, 0, nI (lg + K), logs', mval', -1, count, fresh') ∧ FSok nw' nwc' ∧ FSok be' bec' ∧ FSok fr' frc' ∧ FSok la' lac' ∧ (∀ q k, ¬ FS fr' q k) ∧ RS nw' holds' ∧ RS be' held' ∧ DM P st so nw' ∧ JR kd lp' lw' ln' logs' (lg + K)) ∨
    (¬ lg + K ≤ 96 ∧ M_Hall_commit F 64 96 nw nwc be bec sp sw sn (nI K) lp lw ln (nI lg) kind who width term start (nI P.R) sort stratum reach fr frc la lac value plan x1 x2 x3 x4 x5 x6 = some (.inr (nw, nwc, be, bec, nI K, lp, lw, ln, nI lg, fr, frc, la, lac, value, plan, x1, x2, x3, x4, x5, x6)) ∧ M_Model_commit F th (nI P.R) pc ps pp pts termOf vc kd strat holds held ch (nI K) stage (nI lg) logs mval wanted count fresh = some (0, 1, holds, held, ch, nI K, nI lg, logs, mval, wanted, count, fresh)) := by
  have pr := pg.2.2.2.2.2.2.2.2
  have hss := pg.2.2.2.2.2.2.2.1
  have i3 := pg.2.2.2.2.2.2.1.2.2.1
  have k1 : ∀ p, p < 10 → so p = 2 → ¬ kd p = 1 := fun p hp z y => by
    rw [← (pr p hp).1, (hss p hp).1, z] at y
    exact absurd y (by decide +kernel)
  by_cases c : lg + K ≤ 96
  · refine Or.inl ⟨c, ?_⟩
    obtain ⟨be1, bec1, b1, b2, b3⟩ := S_copyAll (row := be) (count := bec) (row2 := nw) (count2 := nwc)
    obtain ⟨nw1, nwc1, c1, c2, c3⟩ := S_replay (F := F) (N := 64) hj hK (by decide) (by omega) on
    have ob : FSok be1 bec1 := FSok_copy b2 b3 on
    have d1 := S_append (F := F) (N := 96) (M := 64) (tp := lp) (tw := lw) (tn := ln) hj hK (by decide) (by decide) c (by omega)
    obtain ⟨m, t1, t2⟩ := S_touched (F := F) c2 ob (by omega)
    obtain ⟨held1, h1, h2⟩ := S_commit34 (F := F) (RS01 hrn) 17280 0 F held rfl (by omega)
    have h1 : M_Model_commit_L34 F holds F (0 : Int32) held = some held1 := h1
    obtain ⟨hol1, g1, g2⟩ := S_commit61 (F := F) hj hK c (fh nw) K 0 F holds logs (by omega) (by omega) (fun q k hq hk => hrn q k hq hk)
    have g1 : M_Model_commit_L61 F (nI K) stage F (0 : Int32) holds (nI lg) logs = _ := g1
    have hbe : ∀ q k, q < 10 → k < 1728 → fh be1 q k = fh nw q k := fun q k hq hk => fh_rows b2 hq hk
    have hder : ∀ q k, so q = 2 → (FS nw1 q k ↔ FS nw q k) := fun q k z => by
      rw [FS_iff, FS_iff]
      constructor
      · rintro ⟨w1, w2, w3⟩
        rw [c3 q k w1 w2, rpl_base hj w1 w2 (k1 q w1 z) K (Nat.le_refl K)] at w3
        exact ⟨w1, w2, w3⟩
      · rintro ⟨w1, w2, w3⟩
        exact ⟨w1, w2, by rw [c3 q k w1 w2, rpl_base hj w1 w2 (k1 q w1 z) K (Nat.le_refl K)]; exact w3⟩
    obtain ⟨p1, fa1, fac1, fr1, frc1, la1, lac1, a1, a2, a3, a4, a5, a6, hol2, mv2, f2, e1, e2, o1, o2, o3, o4, o5, o6⟩ := E_refresh (F := F) (fa := nw1) (fac := nwc1) (plan := plan) (x1 := x1) (x2 := x2) (x3 := x3) (x4 := x4) (x5 := x5) (x6 := x6) (m := m) (wanted := wanted) (count := count) (fresh := fresh) (mval := mval) (holds := hol1) (B0 := fun q k => FS nw q k ∧ so q ≠ 2) pg hF hv c2 of ol hfr (fun p n hp hn => by rw [g2 p n hp hn, c3 p n hp hn]) (fun p n z _ => (hder p n z).trans (dm p n)) (fun p hp z n => by
      have z : bt m p = false := by simpa using z
      rw [t2 p (by omega)] at z
      have z : ct (fx nw1 be1 p) 1728 = 0 := by simpa [hp] using z
      refine and_congr_left (fun _ => ?_)
      rw [FS_iff, FS_iff]
      refine and_congr_right (fun _ => and_congr_right (fun hn => ?_))
      have := ct_0 z n hn
      unfold fx at this
      rw [hbe p n hp hn] at this
      rw [show fh nw1 p n = fh nw p n by revert this; cases fh nw1 p n <;> cases fh nw p n <;> simp]) (fun p n z => (FS_iff.mp z.1).1)
    obtain ⟨r, q1, q2⟩ := E_countChanges (F := F) o1 ob o4 (fun p n hp hn => by
      have := h2 (1728 * p + n) (by omega)
      rw [this, if_pos (Nat.zero_le _), hbe p n hp hn]
      exact hrn p n hp hn : RS be1 held1) (by omega)
    refine ⟨r, fa1, fac1, be1, bec1, cat_ lp sp lg 0 K, cat_ lw sw lg 0 K, cat_ ln sn lg 0 K, fr1, frc1, la1, lac1, p1, a1, a2, a3, a4, a5, a6, hol2, held1, cat_ logs stage lg 0 K, mv2, f2, ?_, ?_, o1, ob, o2, o3, o6, o4, ?_, o5, hl.cat hj⟩
    · unfold M_Hall_commit
      have s1 : M_Journal_shorten (nI K) (0 : Int32) = some (nI 0) := S_shorten (by omega) (Nat.zero_le K)
      rw [bd_e _ (show M_Journal_size (nI lg) = some (nI lg) from rfl), bd_e _ (show M_Journal_size (nI K) = some (nI K) from rfl), nI_add, if_pos (show nI (lg + K) ≤ (96 : Int32) from nI_le (b := 96) c (by decide)), bd_e _ b1, bd_e _ c1, bd_e _ d1, bd_e _ s1, bd_e _ t1, bd_e _ e1, bd_e _ q1]
    · unfold M_Model_commit
      rw [nI_add, if_pos (show nI (lg + K) ≤ (96 : Int32) from nI_le (b := 96) c (by decide)), if_pos rfl, bd_e _ h1, bd_e _ g1, bd_e _ e2, bd_e _ q2]
    · intro p n hp hn
      have := h2 (1728 * p + n) (by omega)
      rw [this, if_pos (Nat.zero_le _), hbe p n hp hn]
      exact hrn p n hp hn
  · refine Or.inr ⟨c, ?_, ?_⟩
    · unfold M_Hall_commit
      rw [bd_e _ (show M_Journal_size (nI lg) = some (nI lg) from rfl), bd_e _ (show M_Journal_size (nI K) = some (nI K) from rfl), nI_add, if_neg (show ¬ nI (lg + K) ≤ (96 : Int32) from nI_ge (a := 96) (b := lg + K) (by omega) (by omega))]
    · unfold M_Model_commit
      rw [nI_add, if_neg (show ¬ nI (lg + K) ≤ (96 : Int32) from nI_ge (a := 96) (b := lg + K) (by omega) (by omega)), if_neg (by decide)]
theorem E_crash (pg : PG P st so s ix lx mv kind who width term start sort arity stratum reach pc ps pp pts termOf vc kd wi strat) (hF : 24506 < F) {nw nwc be bec sv svc fr frc la lac value plan holds held kept mval lp lw ln logs : Nat → Int32} {x1 x2 x3 x4 x5 x6 wanted count fresh th ch : Int32} {K lg sa : Nat} (hv : VV value (fun _ => 0)) (on : FSok nw nwc) (os : FSok sv svc) (of : FSok fr frc) (ol : FSok la lac) (hfr : ∀ q k, ¬ FS fr q k) (hrn : RS nw holds) (hrs : RS sv kept) (bo : BO kd sv) (hK : K ≤ 64) (hlg : lg ≤ 96) (hsa : sa ≤ lg) (hl : JR kd lp lw ln logs lg) :
    ∃ r nw' nwc' be' bec' fr' frc' la' lac' plan' y1 y2 y3 y4 y5 y6 holds' held' mval' fresh', M_Hall_crash F 96 (nI sa) nw nwc be bec sv svc (nI K) lp lw ln (nI lg) kind who width term start (nI P.R) sort stratum reach fr frc la lac value plan x1 x2 x3 x4 x5 x6 = some (r, nw', nwc', be', bec', nI 0, nI sa, fr', frc', la', lac', value, plan', y1, y2, y3, y4, y5, y6) ∧ M_Model_crash F th (nI P.R) pc ps pp pts termOf vc kd strat holds held kept ch (nI K) (nI lg) (nI sa) logs mval wanted count fresh = some (r, 0, holds', held', 1, 0, nI sa, mval', -1, count, fresh') ∧ FSok nw' nwc' ∧ FSok be' bec' ∧ FSok fr' frc' ∧ FSok la' lac' ∧ (∀ q k, ¬ FS fr' q k) ∧ RS nw' holds' ∧ RS be' held' ∧ DM P st so nw' := by
  have pr := pg.2.2.2.2.2.2.2.2
  have hss := pg.2.2.2.2.2.2.2.1
  obtain ⟨i1, i2, i3, i4, i5, i6, i7, i8⟩ := pg.2.2.2.2.2.2.1
  have k1 : ∀ p, p < 10 → so p = 2 → ¬ kd p = 1 := fun p hp z y => by
    rw [← (pr p hp).1, (hss p hp).1, z] at y
    exact absurd y (by decide +kernel)
  obtain ⟨be1, bec1, b1, b2, b3⟩ := S_copyAll (row := be) (count := bec) (row2 := nw) (count2 := nwc)
  obtain ⟨nw0, nwc0, n1, n2, n3⟩ := S_copyAll (row := nw) (count := nwc) (row2 := sv) (count2 := svc)
  have on0 : FSok nw0 nwc0 := FSok_copy n2 n3 os
  have hl2 := hl.less hsa
  obtain ⟨nw1, nwc1, c1, c2, c3⟩ := S_replay (F := F) (N := 96) hl2 (by omega) (by decide) (by omega) on0
  have ob : FSok be1 bec1 := FSok_copy b2 b3 on
  obtain ⟨hol0, held1, h1, h2⟩ := S_crash7 (F := F) (RS01 hrs) 17280 0 F holds held rfl (by omega) (fun i _ hi => RS01 hrn i hi)
  have h1 : M_Model_crash_L7 F kept F (0 : Int32) holds held = some (hol0, held1) := h1
  obtain ⟨hol1, g1, g2⟩ := S_crash54 (F := F) hl2 (by omega) (fh nw0) sa 0 F hol0 (by omega) (by omega) (fun q k hq hk => by
    rw [(h2 (1728 * q + k) (by omega)).1, if_pos (Nat.zero_le _)]
    show kept (1728 * q + k) = bI (fh nw0 q k)
    rw [fh_rows n2 hq hk]
    exact hrs q k hq hk)
  have g1 : M_Model_crash_L54 F (nI sa) logs F (0 : Int32) hol0 = some hol1 := g1
  have hbe : ∀ q k, q < 10 → k < 1728 → fh be1 q k = fh nw q k := fun q k hq hk => fh_rows b2 hq hk
  have b1023 : ∀ b, b < 10 → bt (1023 : Int32) b = true := by decide +kernel
  have hnd : ∀ q k, so q = 2 → ¬ FS nw1 q k := fun q k z y => by
    obtain ⟨w1, w2, w3⟩ := FS_iff.mp y
    rw [c3 q k w1 w2, rpl_base hl2 w1 w2 (k1 q w1 z) sa (Nat.le_refl sa), fh_rows n2 w1 w2, bo q k w1 w2 (k1 q w1 z)] at w3
    exact absurd w3 (by decide)
  obtain ⟨p1, fa1, fac1, fr1, frc1, la1, lac1, a1, a2, a3, a4, a5, a6, hol2, mv2, f2, e1, e2, o1, o2, o3, o4, o5, o6⟩ := E_refresh (F := F) (fa := nw1) (fac := nwc1) (plan := plan) (x1 := x1) (x2 := x2) (x3 := x3) (x4 := x4) (x5 := x5) (x6 := x6) (m := 1023) (wanted := wanted) (count := count) (fresh := fresh) (mval := mval) (holds := hol1) (B0 := fun q k => FS nw1 q k ∧ so q ≠ 2) pg hF hv c2 of ol hfr (fun p n hp hn => by rw [g2 p n hp hn, c3 p n hp hn]) (fun p n z y => by
    by_cases hp : p < 10
    · exact absurd ⟨hp, z, p, by omega, i8 p hp (Or.inl z), b1023 p hp⟩ y
    · rw [i6 p (by omega)] at z
      exact absurd z (by decide)) (fun p hp z n => Iff.rfl) (fun p n z => (FS_iff.mp z.1).1)
  have hrh : RS be1 held1 := fun p n hp hn => by
    rw [(h2 (1728 * p + n) (by omega)).2, if_pos (Nat.zero_le _), hbe p n hp hn]
    exact hrn p n hp hn
  have t1 := S_total (F := F) o1 (by omega)
  have t2 := S_c116_L (F := F) (holds := hol2) 17280 0 F rfl (by omega)
  have t2 : M_Model_crash_L116 F hol2 F (0 : Int32) (0 : Int32) = some (nI (sm (fc fa1) 10)) := by rw [← hb_sum o4]; exact t2
  refine ⟨nI (sm (fc fa1) 10), fa1, fac1, be1, bec1, fr1, frc1, la1, lac1, p1, a1, a2, a3, a4, a5, a6, hol2, held1, mv2, f2, ?_, ?_, o1, ob, o2, o3, o6, o4, hrh, o5⟩
  · unfold M_Hall_crash
    have s1 : M_Journal_shorten (nI K) (0 : Int32) = some (nI 0) := S_shorten (by omega) (Nat.zero_le K)
    rw [bd_e _ b1, bd_e _ n1, bd_e _ (S_shorten (k := lg) (j := sa) (by omega) hsa), bd_e _ c1, bd_e _ s1, bd_e _ e1, bd_e _ t1]
  · unfold M_Model_crash
    rw [bd_e _ h1, bd_e _ g1, bd_e _ e2, bd_e _ t2]
end
