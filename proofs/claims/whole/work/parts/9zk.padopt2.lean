/-! adopt and the strata alike; the new program's facts -/
theorem sof_2 {X : Nat → En} {p : Nat} : ∀ {m : Nat}, (∃ e, e < m ∧ (X e).kd = 0 ∧ (X e).pd = p) → sof X m p = 2
  | 0, h => by obtain ⟨e, he, -⟩ := h; omega
  | m + 1, h => by
    obtain ⟨e, he, e1, e2⟩ := h
    show (if (X m).kd ≤ 2 ∧ (X m).pd = p then (if (X m).kd = 0 then 2 else if sof X m p = 0 then 1 else sof X m p) else sof X m p) = 2
    by_cases c : e = m
    · subst c
      rw [if_pos ⟨by omega, e2⟩, if_pos e1]
    · have ih := sof_2 (X := X) (p := p) (m := m) ⟨e, by omega, e1, e2⟩
      rw [ih]
      split
      · split
        · rfl
        · rfl
      · rfl
def v0_ (so : Nat → Nat) (p : Nat) : Nat := if so p = 2 then 1 else 0
section
variable {F : Nat} {X : Nat → En} {s : Nat → Nat} {R n : Nat} {kind place who width term start firstPart partMany rulePlace sort predicate firstTerm termMany partPlace mterm : Nat → Int32}
theorem sof_out (h : ST X s R n kind place who width term start firstPart partMany rulePlace sort predicate firstTerm termMany partPlace mterm) : ∀ p, 10 ≤ p → sof X n p = 0 := fun p hp => sof_0.mpr (fun e he z => by
  have := (h.1 e he).1.2.2.2.1 z.1
  omega)
theorem apX_pfx (h : ST X s R n kind place who width term start firstPart partMany rulePlace sort predicate firstTerm termMany partPlace mterm) {re : Nat → Int32} (g : GX X s R n re) : pfx (apX X s R) (phi (sof X n) re) := by
  obtain ⟨g1, g2, g3, g4, g5, g6, g7⟩ := g
  refine phi_pfx (apX_ok h ⟨g1, g2, g3, g4, g5, g6, g7⟩) g5 (fun r hr i i1 i2 i3 => ?_) g7 (fun r hr => ?_) (fun r hr i i1 i2 i3 => ?_)
  · obtain ⟨b1, b2, -, -, -, -, b7, -⟩ := h.2.2.2.2.2 r hr
    have i2 : i ≤ s (r + 1) - s r - 1 := i2
    have p0 := (h.1 (s r) (by omega)).1.2.2.2.1 (by omega)
    have pi := (h.1 (s r + i) (by omega)).1.2.2.2.1 i3
    exact g6 _ _ p0 (by have : (apX X s R).pd r i = (X (s r + i)).pd := rfl; omega) ⟨r, hr, rfl, s r + i, by omega, by omega, i3, rfl⟩
  · obtain ⟨b1, b2, -, -, -, -, b7, -⟩ := h.2.2.2.2.2 r hr
    exact sof_2 ⟨s r, by omega, b7, rfl⟩
  · have i2 : i ≤ s (r + 1) - s r - 1 := i2
    have hb := (h.2.2.2.2.2 r hr).1
    intro z
    exact g4 r hr (s r + i) (by omega) (by omega) ⟨i3, z⟩
/-- the strata: the least ones -/
def WX (X : Nat → En) (s : Nat → Nat) (R n : Nat) (re : Nat → Int32) (W : Nat → Nat) : Prop := pfx (apX X s R) W ∧ RG (apX X s R) (v0_ (sof X n)) W ∧ ∀ p, W p ≤ phi (sof X n) re p
theorem S_adopt (h : ST X s R n kind place who width term start firstPart partMany rulePlace sort predicate firstTerm termMany partPlace mterm) (hn : n ≤ 240) (h480 : tw_ X n ≤ 480) (hF : 480 < F) {re : Nat → Int32} (g : GX X s R n re) {rc0 : Int32} {pc ps pp pts tO vc ki wi st : Nat → Int32} : ∃ pc' ps' pp' pts' tO' vc' ki' wi' st' W, M_Model_adopt F (nI R) firstPart partMany sort predicate firstTerm termMany mterm rc0 pc ps pp pts tO vc ki wi st = some (nI R, pc', ps', pp', pts', tO', vc', ki', wi', st') ∧ RM (apX X s R) (ixX X s mterm) (nvr X s) pc' ps' pp' pts' tO' vc' ∧ (∀ p, p < 10 → ki' p = nI (sof X n p)) ∧ (∀ p, p < 10 → wi' p = nI (arf X n p)) ∧ (∀ p, p < 10 → st' p = nI (W p)) ∧ WX X s R n re W := by
  obtain ⟨ki1, wi1, st1, e1, z1⟩ := S_ad10 (F := F) 10 0 F ki wi st (by omega) (by omega) (fun p hp => by omega)
  have e1 : M_Model_adopt_L10 F F (0 : Int32) ki wi st = _ := e1
  have s0 := h.2.1
  obtain ⟨pc', ps', pp', pts', tO', vc', ki', wi', e2, q1, q2, q3⟩ := S_ad45 (F := F) h hn h480 hF g R 0 F pc ps pp pts tO vc ki1 wi1 (by omega) (by have := h.2.2.2.1; omega) (fun p hp => by rw [(z1 p hp).1, s0]; rfl) (fun p hp => by rw [(z1 p hp).2, s0]; rfl) (fun r hr => by omega)
  have e2 : M_Model_adopt_L45 F (nI R) firstPart partMany sort predicate firstTerm termMany mterm F (0 : Int32) pc ps pp pts tO vc ki1 wi1 = _ := e2
  obtain ⟨st2, e3, q4⟩ := S_ad299 (F := F) (kd := ki') (so := sof X n) (fun p hp => ⟨q1 p hp, sof_le X n p⟩) 10 0 F st1 (by omega) (by omega) (fun p hp => by omega)
  have e3 : M_Model_adopt_L299 F ki' F (0 : Int32) st1 = _ := e3
  have rm : RM (apX X s R) (ixX X s mterm) (nvr X s) pc' ps' pp' pts' tO' vc' := fun r hr => by
    obtain ⟨a1, a2, a3⟩ := q3 r hr
    have hb := (h.2.2.2.2.2 r hr).1
    refine ⟨a1, a2, fun i hi => ?_⟩
    have hi : i ≤ s (r + 1) - s r - 1 := hi
    exact a3 i (by omega)
  have ok := apX_ok h g
  have hW := apX_pfx h g
  have hW10 : ∀ p, phi (sof X n) re p ≤ 10 := phi_10 (sof_out h) g.2.2.2.2.1
  have v01 : ∀ p, v0_ (sof X n) p ≤ 1 := fun p => by unfold v0_; split <;> omega
  have v0W : ∀ p, v0_ (sof X n) p ≤ phi (sof X n) re p := fun p => by unfold v0_ phi; split <;> omega
  have sm1 : sm (v0_ (sof X n)) 10 ≤ 10 := by
    have := sm_leV (V := v0_ (sof X n)) (W := fun _ => 1) v01 10
    exact this
  obtain ⟨st3, W, e4, q5, q6, q7⟩ := S_ad334 (F := F) ok rm (by omega) hW hW10 (100 - sm (v0_ (sof X n)) 10) F st2 (v0_ (sof X n)) (by omega) (by omega) q4 v0W
  refine ⟨pc', ps', pp', pts', tO', vc', ki', wi', st3, W, ?_, rm, q1, fun p hp => ?_, q5, q7, q6, fun p => q6.2 _ hW v0W p⟩
  · unfold M_Model_adopt
    rw [bd_e _ e1]
    show bd_ (M_Model_adopt_L45 F (nI R) firstPart partMany sort predicate firstTerm termMany mterm F (0 : Int32) pc ps pp pts tO vc ki1 wi1) _ = _
    rw [bd_e _ e2]
    show bd_ (M_Model_adopt_L299 F ki' F (0 : Int32) st1) _ = _
    rw [bd_e _ e3]
    exact bd_e (fun z => some (nI R, pc', ps', pp', pts', tO', vc', ki', wi', z)) e4
  · rw [q2 p hp, arw_arf g.1 n (Nat.le_refl n)]
    split
    · rename_i z
      rw [arf_none z]
    · rfl
theorem S_rankStrata (h : ST X s R n kind place who width term start firstPart partMany rulePlace sort predicate firstTerm termMany partPlace mterm) (hn : n ≤ 240) (hF : 480 < F) {re so st : Nat → Int32} (g : GX X s R n re) (hso : ∀ p, p < 10 → so p = nI (sof X n p)) {W : Nat → Nat} (w : WX X s R n re W) : ∃ st', M_Program_rankStrata F kind who start (nI R) so st = some st' ∧ ∀ p, p < 10 → st' p = nI (W p) := by
  obtain ⟨st1, e1, q1⟩ := S_rank2 (F := F) (sort := so) (so := sof X n) (fun p hp => ⟨hso p hp, sof_le X n p⟩) 10 0 F st (by omega) (by omega) (fun p hp => by omega)
  have e1 : M_Program_rankStrata_L2 F so F (0 : Int32) st = _ := e1
  have ok := apX_ok h g
  have hW10 : ∀ p, phi (sof X n) re p ≤ 10 := phi_10 (sof_out h) g.2.2.2.2.1
  have so0 := sof_out h
  obtain ⟨w1, w2, w3⟩ := w
  obtain ⟨st2, e2, q2⟩ := S_rank37 (F := F) ok (apX_pc h hn) (by omega) (V0 := v0_ (sof X n)) (W := W) w1 (fun p => Nat.le_trans (w3 p) (hW10 p)) (fun U h1 h2 => w2.2 U h1 h2) (fun p hp => by
    have a := w3 p
    have e0 : phi (sof X n) re p = 0 := by unfold phi; rw [so0 p hp]; rfl
    have e9 : v0_ (sof X n) p = 0 := by unfold v0_; rw [so0 p hp]; rfl
    omega) 10 0 F st1 (v0_ (sof X n)) (by omega) (by omega) q1 RG.refl w2.1 (Nat.zero_le _)
  have e2 : M_Program_rankStrata_L37 F kind who start (nI R) F (0 : Int32) st1 = _ := e2
  refine ⟨st2, ?_, q2⟩
  unfold M_Program_rankStrata
  rw [bd_e _ e1]
  exact bd_e (fun z => some z) e2
theorem PI_X (h : ST X s R n kind place who width term start firstPart partMany rulePlace sort predicate firstTerm termMany partPlace mterm) {re : Nat → Int32} (g : GX X s R n re) {W : Nat → Nat} (w : WX X s R n re W) : PI (apX X s R) W (sof X n) re := by
  have hW10 : ∀ p, phi (sof X n) re p ≤ 10 := phi_10 (sof_out h) g.2.2.2.2.1
  have ok := apX_ok h g
  obtain ⟨w1, w2, w3⟩ := w
  have hd : ∀ r, r < R → sof X n (X (s r)).pd = 2 := fun r hr => by
    obtain ⟨b1, b2, -, -, -, -, b7, -⟩ := h.2.2.2.2.2 r hr
    exact sof_2 ⟨s r, by omega, b7, rfl⟩
  have v1 : ∀ p, sof X n p = 2 → 1 ≤ W p := fun p hp => by
    have := w2.1 p
    have e : v0_ (sof X n) p = 1 := if_pos hp
    omega
  refine ⟨fun r hr => ⟨⟨v1 _ (hd r hr), Nat.le_trans (w3 _) (hW10 _)⟩, fun i i1 i2 => ⟨fun k1 => ?_, fun k2 => ?_⟩⟩, fun p => Nat.le_trans (w3 p) (hW10 p), sof_le X n, fun p => ⟨v1 p, fun z => ?_⟩, hd, sof_out h, fun r hr i i1 i2 hk b hb z => ?_, fun p hp _ => g.2.2.2.2.1 p hp⟩
  · have := w1 ((apX X s R).pd r 0) ((apX X s R).pd r i) 0 ⟨r, hr, rfl, i, i1, i2, by omega, rfl, by rw [if_neg (by omega)]⟩
    omega
  · have := w1 ((apX X s R).pd r 0) ((apX X s R).pd r i) 1 ⟨r, hr, rfl, i, i1, i2, by omega, rfl, by rw [if_pos k2]⟩
    omega
  · refine Classical.byContradiction (fun y => ?_)
    have := w3 p
    have e : phi (sof X n) re p = 0 := by unfold phi; rw [if_neg y]
    omega
  · obtain ⟨g1, g2, g3, g4, g5, g6, g7⟩ := g
    obtain ⟨b1, b2, -, -, -, -, b7, -⟩ := h.2.2.2.2.2 r hr
    have i2 : i ≤ s (r + 1) - s r - 1 := i2
    have k2 : (X (s r + i)).kd ≤ 2 := by
      have : (apX X s R).kd r i = (X (s r + i)).kd := rfl
      omega
    have p0 := (h.1 (s r) (by omega)).1.2.2.2.1 (by omega)
    have pi := (h.1 (s r + i) (by omega)).1.2.2.2.1 k2
    have e := g6 (X (s r)).pd (X (s r + i)).pd p0 (by omega) ⟨r, hr, rfl, s r + i, by omega, by omega, k2, rfl⟩
    exact g7 _ _ b pi p0 hb e z
theorem PG_X (h : ST X s R n kind place who width term start firstPart partMany rulePlace sort predicate firstTerm termMany partPlace mterm) (hn : n ≤ 240) {re : Nat → Int32} (g : GX X s R n re) {W : Nat → Nat} (w : WX X s R n re W) {so ar st pc ps pp pts tO vc ki wi st' : Nat → Int32} (rm : RM (apX X s R) (ixX X s mterm) (nvr X s) pc ps pp pts tO vc) (a1 : ∀ p, p < 10 → so p = nI (sof X n p)) (a2 : ∀ p, p < 10 → ar p = nI (arf X n p)) (a3 : ∀ p, p < 10 → st p = nI (W p)) (b1 : ∀ p, p < 10 → ki p = nI (sof X n p)) (b2 : ∀ p, p < 10 → wi p = nI (arf X n p)) (b3 : ∀ p, p < 10 → st' p = nI (W p)) : PG (apX X s R) W (sof X n) s (ixX X s mterm) (lxX X s mterm) (nvr X s) kind who width term start so ar st re pc ps pp pts tO vc ki wi st' ∧ (apX X s R).ixb (ixX X s mterm) (lxX X s mterm) (nvr X s) ∧ ∀ r, r < (apX X s R).R → ar ((apX X s R).pd r 0) = nI ((apX X s R).wd r 0) := by
  refine ⟨⟨apX_ok h g, apX_safe h g, apX_ixo h g, apX_ixl h, apX_pc h hn, rm, PI_X h g w, fun p hp => ⟨a1 p hp, a3 p hp⟩, fun p hp => ⟨by rw [a1 p hp, b1 p hp], by rw [a2 p hp, b2 p hp], by rw [a3 p hp, b3 p hp], arf X n p, arf_le h.1 n (Nat.le_refl n) p, b2 p hp⟩⟩, apX_ixb h, fun r hr => ?_⟩
  obtain ⟨c1, c2, -, -, -, -, c7, -⟩ := h.2.2.2.2.2 r hr
  have p0 := (h.1 (s r) (by omega)).1.2.2.2.1 (by omega)
  show ar (X (s r)).pd = nI (X (s r)).wd
  rw [a2 _ p0, g.1 (s r) (by omega) (by omega)]
end
