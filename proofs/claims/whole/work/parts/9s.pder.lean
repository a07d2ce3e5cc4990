/-! both count alike -/
def lxl (lx : Nat → Nat → Nat) (r : Nat) : Nat → Nat → List Nat
  | 0, _ => []
  | k + 1, v => lx r v :: lxl lx r k (v + 1)
theorem lxl_mem {lx : Nat → Nat → Nat} {r L : Nat} : ∀ {k v : Nat}, L ∈ lxl lx r k v ↔ ∃ y, v ≤ y ∧ y < v + k ∧ L = lx r y
  | 0, v => ⟨fun h => absurd h List.not_mem_nil, fun ⟨u, h1, h2, _⟩ => by omega⟩
  | k + 1, v => by
    show L ∈ lx r v :: lxl lx r k (v + 1) ↔ _
    rw [List.mem_cons, lxl_mem]
    constructor
    · rintro (h | ⟨y, h1, h2, h3⟩)
      · exact ⟨v, Nat.le_refl v, by omega, h⟩
      · exact ⟨y, by omega, by omega, h3⟩
    · rintro ⟨y, h1, h2, h3⟩
      by_cases e : y = v
      · subst e; exact Or.inl h3
      · exact Or.inr ⟨y, by omega, by omega, h3⟩
/-- each number has its letter, and the letter that number -/
def AP.ixb (P : AP) (ix lx : Nat → Nat → Nat) (mv : Nat → Nat) : Prop := ∀ r, r < P.R → ∀ y, y < mv r → ix r (lx r y) = y ∧ ∃ i, i ≤ P.K r ∧ P.le r i (lx r y) = true
section
variable {P : AP} {ix lx : Nat → Nat → Nat} {mv : Nat → Nat}
theorem lxl_nodup (ib : P.ixb ix lx mv) {r : Nat} (hr : r < P.R) : ∀ (k v : Nat), v + k ≤ mv r → (lxl lx r k v).Nodup
  | 0, v, _ => List.nodup_nil
  | k + 1, v, h => List.nodup_cons.mpr ⟨fun z => by
      obtain ⟨y, h1, h2, h3⟩ := lxl_mem.mp z
      have e1 := (ib r hr v (by omega)).1
      have e2 := (ib r hr y (by omega)).1
      rw [h3, e2] at e1
      omega, lxl_nodup ib hr k (v + 1) (by omega)⟩
theorem lxl_lets (io : P.ixo ix mv) (il : P.ixl ix lx) (ib : P.ixb ix lx mv) {r : Nat} (hr : r < P.R) : P.lets r (lxl lx r (mv r) 0) := by
  refine ⟨lxl_nodup ib hr (mv r) 0 (by omega), fun L => lxl_mem.trans ⟨?_, ?_⟩⟩
  · rintro ⟨y, h1, h2, h3⟩
    obtain ⟨e1, i, h4, h5⟩ := ib r hr y (by omega)
    exact ⟨i, h4, by rw [h3]; exact h5⟩
  · rintro ⟨i, h1, h2⟩
    obtain ⟨u, u1, u2⟩ := lett_iff.mp h2
    have a1 := (io r hr).2 i h1 u u1 (by omega)
    have a2 := il r hr i h1 u u1 (by omega)
    rw [u2, show 12 + L - 12 = L by omega] at a1 a2
    exact ⟨ix r L, Nat.zero_le _, by omega, a2.symm⟩
theorem cN_cS {Q Q2 : (Nat → Nat) → Prop} (ib : P.ixb ix lx mv) {r : Nat} (hr : r < P.R) (hQ : ∀ a ν : Nat → Nat, (∀ y, a y < 12) → (∀ y, y < mv r → ν (lx r y) = a y + 1) → (Q a ↔ Q2 ν)) : ∀ (k v : Nat) (a ν : Nat → Nat), v + k = mv r → (∀ y, a y < 12) → (∀ y, y < v → ν (lx r y) = a y + 1) → cN Q k v a = cS (lxl lx r k v) ν (fun κ => ind (Q2 κ))
  | 0, v, a, ν, hv, ha, hn => ind_congr (hQ a ν ha (fun y hy => hn y (by omega)))
  | k + 1, v, a, ν, hv, ha, hn => sx_congr (fun c _ hc => cN_cS ib hr hQ k (v + 1) (ua a v c) (se ν (lx r v) c) (by omega) (fun y => by
      show (if y = v then c else a y) < 12
      split
      · omega
      · exact ha y) (fun y hy => by
      show (if lx r y = lx r v then c + 1 else ν (lx r y)) = (if y = v then c else a y) + 1
      by_cases e : y = v
      · rw [if_pos (by rw [e]), if_pos e]
      · rw [if_neg (fun z => ?_), if_neg e]
        · exact hn y (by omega)
        · have e1 := (ib r hr v (by omega)).1
          have e2 := (ib r hr y (by omega)).1
          rw [z, e1] at e2
          exact e e2.symm))
/-- what the reference asks of numbers, the class asks of letters -/
theorem qn_qs {fa la : Nat → Int32} (ok : P.ok) (io : P.ixo ix mv) (il : P.ixl ix lx) {r : Nat} (hr : r < P.R) {N : Nat} {a ν : Nat → Nat} (ha : ∀ y, a y < 12) (hν : ∀ y, y < mv r → ν (lx r y) = a y + 1) : P.qn ix (fb fa) r (1728 * P.pd r 0 + N) a ↔ P.qs r fa la N ν := by
  have htn : ∀ i, i ≤ P.K r → ∀ t, t < P.wd r i → tn ν (P.tm r i t) = tn (fun L => sg ix r a L + 1) (P.tm r i t) := fun i hi t ht => by
    unfold tn
    by_cases c : P.tm r i t < 12
    · rw [if_pos c, if_pos c]
    · rw [if_neg c, if_neg c]
      have a1 := (io r hr).2 i hi t ht (by omega)
      have a2 := il r hr i hi t ht (by omega)
      have := hν _ a1
      rw [a2] at this
      exact this
  have hso : ∀ i, 1 ≤ i → i ≤ P.K r → (P.sob r 0 fa la i ν = true ↔ P.so (FS fa) (FS fa) r i (sg ix r a)) := fun i i1 i2 => by
    obtain ⟨k5, k1, w3, w2, -, -⟩ := (ok.2 r hr).2.2 i i2
    rw [AP.sob_congr (κ := fun L => sg ix r a L + 1) w2 (htn i i2) (k1 i1), sob_so ok hr i1 i2 (sg_lt ha), if_neg (by omega)]
  have hn : P.nn r 0 ν = P.nu r 0 (sg ix r a) := by
    rw [← nn_σ]
    exact nmv_congr (fun t ht => by rw [htn 0 (Nat.zero_le _) t ht])
  unfold AP.qn AP.qs
  rw [hn]
  constructor
  · rintro ⟨h1, h2⟩
    exact ⟨fun i i1 i2 => (hso i i1 i2).mpr (h1 i i1 i2), by omega⟩
  · rintro ⟨h1, h2⟩
    exact ⟨fun i i1 i2 => (hso i i1 i2).mp (h1 i i1 i2), by omega⟩
/-- how often the rules tell fact N of predicate p: from rule j on, d of them -/
noncomputable def AP.cr (P : AP) (ix : Nat → Nat → Nat) (mv : Nat → Nat) (fa : Nat → Int32) (p N : Nat) : Nat → Nat → Nat
  | 0, _ => 0
  | d + 1, j => (if P.pd j 0 = p then cN (P.qn ix (fb fa) j (1728 * p + N)) (mv j) 0 (fun _ => 0) else 0) + P.cr ix mv fa p N d (j + 1)
variable {F : Nat} {s : Nat → Nat} {kind who width term start pc ps pp pts termOf vc : Nat → Int32}
theorem S_cd5 {fa fac fr frc la lac : Nat → Int32} (ok : P.ok) (sf : P.safe) (io : P.ixo ix mv) (il : P.ixl ix lx) (ib : P.ixb ix lx mv) (hc : PC P s kind who width term start) (hF : 100 < F) (oa : FSok fa fac) (ol : FSok la lac) {p w : Nat} {dg : Nat → Nat} (hd : ∀ t, dg t < 12) (hw : ∀ r, r < P.R → P.pd r 0 = p → P.wd r 0 = w) (hp : p < 10) : ∀ (d j n : Nat) (sum : Nat) (value plan : Nat → Int32) (x1 x2 x3 x4 x5 x6 : Int32), j + d = P.R → d < n → VV value (fun _ => 0) → ∃ value' plan' y1 y2 y3 y4 y5 y6, M_Deducer_countDerivations_L5 F fa fac la lac kind who width term start (nI P.R) (nI p) (nI (nmv dg w)) n (nI j) (nI sum) value plan x1 x2 x3 x4 x5 x6 fr frc = some (nI (sum + P.cr ix mv fa p (nmv dg w) d j), value', plan', y1, y2, y3, y4, y5, y6, fr, frc) ∧ VV value' (fun _ => 0)
  | 0, j, n, sum, value, plan, x1, x2, x3, x4, x5, x6, hj, hn, hv => by
    obtain ⟨n, rfl⟩ : ∃ m, n = m + 1 := ⟨n - 1, by omega⟩
    have r16 := ok.1
    unfold M_Deducer_countDerivations_L5
    rw [if_pos (nI_le (by omega) (by omega))]
    exact ⟨_, _, _, _, _, _, _, _, rfl, hv⟩
  | d + 1, j, n, sum, value, plan, x1, x2, x3, x4, x5, x6, hj, hn, hv => by
    obtain ⟨n, rfl⟩ : ∃ m, n = m + 1 := ⟨n - 1, by omega⟩
    have r16 := ok.1
    have hjR : j < P.R := by omega
    obtain ⟨e1, e2, h240, e⟩ := hc j hjR
    have k0 := (ok.2 j hjR).2.1
    have p10 := ((ok.2 j hjR).2.2 0 (Nat.zero_le _)).2.2.2.2.1 (by omega)
    have ew : who (s j) = nI (P.pd j 0) := (e 0 (Nat.zero_le _)).2.1 (by omega)
    unfold M_Deducer_countDerivations_L5
    rw [if_neg (nI_ge (a := j) (b := P.R) hjR (by omega)), gd_n _ (show j < 241 by omega) (by decide), nI_clamp (show j < 2 ^ 31 by omega), e1, gd_n _ (show s j < 240 by omega) (by decide), lt_e, nI_clamp (show s j < 2 ^ 31 by omega), ew]
    show ∃ value' plan' y1 y2 y3 y4 y5 y6, _ = some (nI (sum + ((if P.pd j 0 = p then cN (P.qn ix (fb fa) j (1728 * p + nmv dg w)) (mv j) 0 (fun _ => 0) else 0) + P.cr ix mv fa p (nmv dg w) d (j + 1))), value', plan', y1, y2, y3, y4, y5, y6, fr, frc) ∧ _
    by_cases c : P.pd j 0 = p
    · have ec := cN_cS (Q := P.qn ix (fb fa) j (1728 * p + nmv dg w)) (Q2 := P.qs j fa la (nmv dg w)) ib hjR (fun a ν h1 h2 => by rw [← c]; exact qn_qs ok io il hjR h1 h2) (mv j) 0 (fun _ => 0) (fun _ => 0) (by omega) (fun _ => by decide) (fun y hy => absurd hy (Nat.not_lt_zero _))
      obtain ⟨v1, p1, a1, a2, a3, a4, a5, a6, f1, hv1⟩ := S_countSol (F := F) (fa := fa) (fr := fr) (frc := frc) (plan := plan) (planned := x1) (x1 := x2) (x2 := x3) (x3 := x4) (cnt := x5) (sol := x6) ok sf hc hF hjR hv oa ol hd (lxl_lets io il ib hjR)
      rw [hw j hjR c, ← ec] at f1
      rw [if_pos (by rw [c]), bd_e _ f1, lt_e, lt_e, nI_1, nI_add, if_pos c, ← Nat.add_assoc]
      exact S_cd5 ok sf io il ib hc hF oa ol hd hw hp d (j + 1) n _ v1 p1 a1 a2 a3 a4 a5 a6 (by omega) (by omega) hv1
    · rw [if_neg (fun z => c ((nI_eq (by omega) (by omega)).mp z)), lt_e, nI_1, if_neg c, Nat.zero_add]
      exact S_cd5 ok sf io il ib hc hF oa ol hd hw hp d (j + 1) n sum value plan x1 x2 x3 x4 x5 x6 (by omega) (by omega) hv
theorem S_d48 {fa holds : Nat → Int32} {st : Nat → Nat} (ok : P.ok) (io : P.ixo ix mv) (hm : RM P ix mv pc ps pp pts termOf vc) (hF : 24506 < F) (hst : P.str st) (hr : RS fa holds) {p N : Nat} (hp : p < 10) (hN : N < 1728) {fresh : Int32} : ∀ (d j n : Nat) (count : Nat) (value : Nat → Int32), j + d = P.R → d < n → ∃ value', M_Model_derivations_L48 F (nI P.R) pc ps pp pts termOf vc (nI (1728 * p + N)) (nI p) n (nI j) holds value (nI count) fresh = some (holds, value', nI (count + P.cr ix mv fa p N d j), fresh)
  | 0, j, n, count, value, hj, hn => by
    obtain ⟨n, rfl⟩ : ∃ m, n = m + 1 := ⟨n - 1, by omega⟩
    have r16 := ok.1
    unfold M_Model_derivations_L48
    rw [if_pos (nI_le (by omega) (by omega))]
    exact ⟨_, rfl⟩
  | d + 1, j, n, count, value, hj, hn => by
    obtain ⟨n, rfl⟩ : ∃ m, n = m + 1 := ⟨n - 1, by omega⟩
    have r16 := ok.1
    have hjR : j < P.R := by omega
    have e6 : (6 : Int32) * nI j = nI (6 * j) := pk_mul 6 j
    obtain ⟨k5, k0, kk⟩ := ok.2 j hjR
    have p10 := (kk 0 (Nat.zero_le _)).2.2.2.2.1 (by omega)
    have ep : pp (6 * j) = nI (P.pd j 0) := ((hm j hjR).2.2 0 (Nat.zero_le _)).2.1 (by omega)
    unfold M_Model_derivations_L48
    rw [if_neg (nI_ge (a := j) (b := P.R) hjR (by omega)), e6, gd_n _ (show 6 * j < 96 by omega) (by decide), lt_e, nI_clamp (show 6 * j < 2 ^ 31 by omega), ep]
    show ∃ value', _ = some (holds, value', nI (count + ((if P.pd j 0 = p then cN (P.qn ix (fb fa) j (1728 * p + N)) (mv j) 0 (fun _ => 0) else 0) + P.cr ix mv fa p N d (j + 1))), fresh)
    by_cases c : P.pd j 0 = p
    · obtain ⟨v1, f1⟩ := S_cntAll (F := F) (G := fb fa) (value := value) (fresh := fresh) (count := count) (holds := holds) ok io hm hF hjR (fun i i1 i2 z e => by have := ((hst j hjR).2 i i1 i2).2 z; rw [e] at this; omega) (fun q k hq hk => by
        rw [hr q k hq hk]
        refine congrArg bI ?_
        unfold fb
        simp [hq, hk]) (show 1728 * p + N < 17280 by omega)
      rw [if_pos (by rw [c]), bd_e _ f1, lt_e, nI_1, if_pos c, ← Nat.add_assoc]
      exact S_d48 ok io hm hF hst hr hp hN d (j + 1) n _ v1 (by omega) (by omega)
    · rw [if_neg (fun z => c ((nI_eq (by omega) (by omega)).mp z)), lt_e, nI_1, if_neg c, Nat.zero_add]
      exact S_d48 ok io hm hF hst hr hp hN d (j + 1) n count value (by omega) (by omega)
theorem nmb_dg {w : Nat} {a b c : Int32} {n : Nat} (hw : w ≤ 3) (h : nmb w a b c = some n) : ∃ dg : Nat → Nat, (∀ t, dg t < 12) ∧ n = nmv dg w := by
  refine ⟨fun t => if t = 0 then (if isC a then a.toNatClampNeg else 0) else if t = 1 then (if isC b then b.toNatClampNeg else 0) else (if isC c then c.toNatClampNeg else 0), fun t => ?_, ?_⟩
  · have key : ∀ x : Int32, (if isC x then x.toNatClampNeg else 0) < 12 := fun x => by
      split
      · rename_i h; exact (isC_n h).2
      · decide
    show (if t = 0 then _ else if t = 1 then _ else _) < 12
    split
    · exact key a
    · split
      · exact key b
      · exact key c
  · unfold nmb at h
    have : w = 0 ∨ w = 1 ∨ w = 2 ∨ w = 3 := by omega
    cases h1 : isC a <;> cases h2 : isC b <;> cases h3 : isC c <;> rcases this with rfl | rfl | rfl | rfl <;> simp [h1, h2, h3, nmv] at h ⊢ <;> omega
theorem E_num2 {sort arity stratum kind width strat : Nat → Int32} (hp : PRel sort arity stratum kind width strat) (x0 x1 x2 x3 : Int32) :
    (M_Program_number sort arity x0 x1 x2 x3 = some (-1) ∧ M_Model_place kind width x0 x1 x2 x3 = some (-1)) ∨
    ∃ p w dg, p < 10 ∧ w ≤ 3 ∧ arity p = nI w ∧ (∀ t, dg t < 12) ∧ x0 = nI p ∧ ¬ kind p = 0 ∧ M_Program_number sort arity x0 x1 x2 x3 = some (nI (nmv dg w)) ∧ M_Model_place kind width x0 x1 x2 x3 = some (nI (1728 * p + nmv dg w)) := by
  rcases x_cases x0 (n := 10) (by decide) with z | z | ⟨p, h10, rfl⟩
  · exact Or.inl ⟨S_numberNone (S_sortOut (Or.inl z)), S_placeOut (Or.inl z)⟩
  · exact Or.inl ⟨S_numberNone (S_sortOut (Or.inr z)), S_placeOut (Or.inr z)⟩
  · obtain ⟨e1, e2, e3, w, hw, ew⟩ := hp p h10
    by_cases hk : kind p = 0
    · exact Or.inl ⟨S_numberNone (by rw [S_sortOf h10, e1, hk]), S_placeUn h10 hk x1 x2 x3⟩
    · have a1 := S_number (sort := sort) (arity := arity) h10 (by rw [e1]; exact hk) (by rw [e2]; exact ew) hw x1 x2 x3
      have a2 := S_place (kind := kind) (width := width) h10 hk ew hw x1 x2 x3
      cases hn : nmb w x1 x2 x3 with
      | none => rw [hn] at a1 a2; exact Or.inl ⟨a1, a2⟩
      | some n =>
        rw [hn] at a1 a2
        obtain ⟨dg, d1, d2⟩ := nmb_dg hw hn
        rw [d2] at a1 a2
        exact Or.inr ⟨p, w, dg, h10, hw, e2.trans ew, d1, rfl, hk, a1, a2⟩
end
section
variable {F : Nat} {P : AP} {st so s : Nat → Nat} {ix lx : Nat → Nat → Nat} {mv : Nat → Nat} {kind who width term start sort arity stratum reach pc ps pp pts termOf vc kd wi strat : Nat → Int32}
theorem E_derivations (pg : PG P st so s ix lx mv kind who width term start sort arity stratum reach pc ps pp pts termOf vc kd wi strat) (ib : P.ixb ix lx mv) (ha : ∀ r, r < P.R → arity (P.pd r 0) = nI (P.wd r 0)) (hF : 24506 < F) {nw nwc fr frc la lac value plan holds mval : Nat → Int32} {x1 x2 x3 x4 x5 x6 wanted count fresh th y0 y1 y2 y3 : Int32} (hv : VV value (fun _ => 0)) (on : FSok nw nwc) (ol : FSok la lac) (hrn : RS nw holds) : ∃ r value' plan' z1 z2 z3 z4 z5 z6 mval' wanted' count', M_Hall_derivations F nw nwc kind who width term start (nI P.R) sort arity fr frc la lac value plan x1 x2 x3 x4 x5 x6 y0 y1 y2 y3 = some (r, fr, frc, value', plan', z1, z2, z3, z4, z5, z6) ∧ M_Model_derivations F th (nI P.R) pc ps pp pts termOf vc kd wi holds mval wanted count fresh y0 y1 y2 y3 = some (r, 0, holds, mval', wanted', count', fresh) ∧ VV value' (fun _ => 0) := by
  obtain ⟨ok, sf, io, il, hc, rm, pi, hss, pr⟩ := pg
  have r16 := ok.1
  unfold M_Hall_derivations M_Model_derivations
  rcases E_num2 pr y0 y1 y2 y3 with ⟨a1, a2⟩ | ⟨p, w, dg, h10, hw, ew, hd, rfl, hk, a1, a2⟩
  · rw [bd_e _ a1, bd_e _ a2, if_pos rfl, if_pos rfl]
    exact ⟨_, _, _, _, _, _, _, _, _, _, _, _, rfl, rfl, hv⟩
  · have hn : nmv dg w < 1728 := nmv_lt3 hw (fun t _ => hd t)
    rw [bd_e _ a1, bd_e _ a2, if_neg (nI_nm1 (by omega)), if_neg (nI_nm1 (by omega)), bd_e _ (S_sortOf h10), gd_n _ h10 (by decide), nI_clamp (show p < 2 ^ 31 by omega), (pr p h10).1]
    by_cases c : kd p = 2
    · obtain ⟨v1, p1, b1, b2, b3, b4, b5, b6, f1, hv1⟩ := S_cd5 (F := F) (fr := fr) (frc := frc) ok sf io il ib hc (by omega) on ol hd (fun r hr e => by
        have := ha r hr
        rw [e, ew] at this
        exact ((nI_eq (by omega) (by have := ((ok.2 r hr).2.2 0 (Nat.zero_le _)).2.2.1; omega)).mp this).symm) h10 P.R 0 F 0 value plan x1 x2 x3 x4 x5 x6 (by omega) (by omega) hv
      obtain ⟨v2, f2⟩ := S_d48 (F := F) (fresh := fresh) ok io rm hF pi.1 hrn h10 hn P.R 0 F 0 mval (by omega) (by omega)
      have f2 : M_Model_derivations_L48 F (nI P.R) pc ps pp pts termOf vc (nI (1728 * p + nmv dg w)) (nI p) F (0 : Int32) holds mval (0 : Int32) fresh = _ := f2
      have f1 : M_Deducer_countDerivations F value plan x1 x2 x3 x4 x5 x6 nw nwc fr frc la lac kind who width term start (nI P.R) (nI p) (nI (nmv dg w)) = some (nI (0 + P.cr ix mv nw p (nmv dg w) P.R 0), v1, p1, b1, b2, b3, b4, b5, b6, fr, frc) := by
        unfold M_Deducer_countDerivations
        exact bd_e (fun z6 => some (z6.1, z6.2.1, z6.2.2.1, z6.2.2.2.1, z6.2.2.2.2.1, z6.2.2.2.2.2.1, z6.2.2.2.2.2.2.1, z6.2.2.2.2.2.2.2.1, z6.2.2.2.2.2.2.2.2.1, z6.2.2.2.2.2.2.2.2.2.1, z6.2.2.2.2.2.2.2.2.2.2)) f1
      rw [if_pos c, if_pos c, bd_e _ f1, bd_e _ f2]
      exact ⟨_, _, _, _, _, _, _, _, _, _, _, _, rfl, rfl, hv1⟩
    · rw [if_neg c, if_neg c]
      exact ⟨_, _, _, _, _, _, _, _, _, _, _, _, rfl, rfl, hv⟩
end
