/-- what a rule's trial may add -/
def Gro (P : AP) (N : Nat → Nat → Prop) (r : Nat) (G H : Nat → Nat → Bool) (f g : Int32) : Prop := (∀ q k, G q k = true → H q k = true) ∧ (∀ q k, q ≠ P.pd r 0 → H q k = G q k) ∧ (g = 0 ∨ g = 1) ∧ (g = 0 → f = 0 ∧ H = G) ∧ (g = 1 → f = 1 ∨ ∃ q k, q < 10 ∧ k < 1728 ∧ G q k = false ∧ H q k = true) ∧ (∀ X : Nat → Nat → Prop, (∀ q k, G q k = true → X q k) → (∀ σ, (∀ L, σ L < 12) → P.fits X N r σ → X (P.pd r 0) (P.nu r 0 σ)) → ∀ q k, H q k = true → X q k)
theorem Gro.refl {P : AP} {N : Nat → Nat → Prop} {r : Nat} {G : Nat → Nat → Bool} {f : Int32} (hf : f = 0 ∨ f = 1) : Gro P N r G G f f := ⟨fun _ _ h => h, fun _ _ _ => rfl, hf, fun h => ⟨h, rfl⟩, fun h => Or.inl h, fun X h _ q k z => h q k z⟩
theorem Gro.trans {P : AP} {N : Nat → Nat → Prop} {r : Nat} {G H J : Nat → Nat → Bool} {f g h : Int32} (a : Gro P N r G H f g) (b : Gro P N r H J g h) : Gro P N r G J f h := by
  obtain ⟨a1, a2, a3, a4, a5, a6⟩ := a
  obtain ⟨b1, b2, b3, b4, b5, b6⟩ := b
  refine ⟨fun q k z => b1 q k (a1 q k z), fun q k z => (b2 q k z).trans (a2 q k z), b3, fun z => ?_, fun z => ?_, fun X h1 h2 => b6 X (a6 X h1 h2) h2⟩
  · obtain ⟨c1, c2⟩ := b4 z
    obtain ⟨d1, d2⟩ := a4 c1
    exact ⟨d1, c2.trans d2⟩
  · rcases b5 z with c | ⟨q, k, c1, c2, c3, c4⟩
    · rcases a5 c with d | ⟨q, k, d1, d2, d3, d4⟩
      · exact Or.inl d
      · exact Or.inr ⟨q, k, d1, d2, d3, b1 q k d4⟩
    · refine Or.inr ⟨q, k, c1, c2, ?_, c4⟩
      cases hg : G q k with
      | false => rfl
      | true => rw [a1 q k hg] at c3; exact absurd c3 (by decide)
def ad1 (G : Nat → Nat → Bool) (p n : Nat) : Nat → Nat → Bool := fun q k => G q k || decide (q = p ∧ k = n)
theorem ad1_in (G : Nat → Nat → Bool) (p n : Nat) : ad1 G p n p n = true := by simp [ad1]
theorem ad1_mono {G : Nat → Nat → Bool} {p n q k : Nat} (h : G q k = true) : ad1 G p n q k = true := by simp [ad1, h]
theorem ad1_has {G : Nat → Nat → Bool} {p n : Nat} (h : G p n = true) : ad1 G p n = G := by
  funext q k
  unfold ad1
  by_cases c : q = p ∧ k = n
  · obtain ⟨rfl, rfl⟩ := c; simp [h]
  · simp [c]
theorem HB_ad1 {holds : Nat → Int32} {G : Nat → Nat → Bool} {p n : Nat} (hp : p < 10) (hn : n < 1728) (h : HB holds G) : HB (upd holds (1728 * p + n) 1) (ad1 G p n) := fun q k hq hk => by
  by_cases c : q = p ∧ k = n
  · obtain ⟨rfl, rfl⟩ := c
    rw [pk_us, ad1_in]; rfl
  · rw [pk_un (by omega), h q k hq hk]
    simp [ad1, c]
theorem sg_lt {ix : Nat → Nat → Nat} {r : Nat} {a : Nat → Nat} (h : ∀ y, a y < 12) : ∀ L, sg ix r a L < 12 := fun L => h _
theorem yv_1s (x : Nat) : yv x + (1 : Int32) = nI x := by
  cases x with
  | zero => decide +kernel
  | succ x => exact nI_1 x
theorem nI_m1 (v : Nat) : nI v + (-1 : Int32) = yv v := by
  cases v with
  | zero => decide +kernel
  | succ v =>
    show nI (v + 1) + (-1 : Int32) = nI v
    rw [← nI_1, Int32.add_assoc]
    have : (1 : Int32) + (-1 : Int32) = 0 := by decide
    rw [this, Int32.add_zero]
section
variable {F : Nat} {P : AP} {ix : Nat → Nat → Nat} {mv : Nat → Nat} {pc ps pp pts termOf vc : Nat → Int32}
/-- the reference takes what a rule tells -/
theorem RM_found (ok : P.ok) (io : P.ixo ix mv) (hm : RM P ix mv pc ps pp pts termOf vc) (hF : 6 < F) {r : Nat} (hr : r < P.R) {N : Nat → Nat → Prop} {holds value : Nat → Int32} {G : Nat → Nat → Bool} {a : Nat → Nat} {count fresh : Int32} (hG : HB holds G) (hv : ∀ y, y < mv r → value y = nI (a y)) (ha : ∀ y, a y < 12) (hfr : fresh = 0 ∨ fresh = 1) (hs : ∀ i, 1 ≤ i → i ≤ P.K r → P.so (GP G) N r i (sg ix r a)) : ∃ holds' fresh', M_Model_found F pp pts termOf holds value (-1) count fresh (nI r) = some (holds', count, fresh') ∧ HB holds' (ad1 G (P.pd r 0) (P.nu r 0 (sg ix r a))) ∧ Gro P N r G (ad1 G (P.pd r 0) (P.nu r 0 (sg ix r a))) fresh fresh' := by
  obtain ⟨e, n1, p1⟩ := RM_head (F := F) ok io hm (by omega) hr (fun y hy => ⟨hv y hy, ha y⟩)
  have ef := S_found (holds := holds) (count := count) (fresh := fresh) (show 1728 * P.pd r 0 + P.nu r 0 (sg ix r a) < 17280 by omega) e
  refine ⟨_, _, ef, HB_ad1 p1 n1 hG, fun q k z => ad1_mono z, fun q k z => ?_, ?_, fun z => ?_, fun z => ?_, fun X h1 h2 q k z => ?_⟩
  · have : ¬ (q = P.pd r 0 ∧ k = P.nu r 0 (sg ix r a)) := fun w => z w.1
    simp [ad1, this]
  · split
    · exact Or.inl rfl
    · exact Or.inr rfl
  · by_cases c : fresh = 0 ∧ ¬ holds (1728 * P.pd r 0 + P.nu r 0 (sg ix r a)) = 0
    · refine ⟨c.1, ad1_has ?_⟩
      have := c.2
      rw [hG _ _ p1 n1] at this
      cases hh : G (P.pd r 0) (P.nu r 0 (sg ix r a)) with
      | true => rfl
      | false => rw [hh] at this; exact absurd rfl this
    · rw [if_neg c] at z
      exact absurd z (by decide)
  · by_cases c : fresh = 0 ∧ ¬ holds (1728 * P.pd r 0 + P.nu r 0 (sg ix r a)) = 0
    · rw [if_pos c] at z
      exact absurd z (by decide)
    · rcases hfr with f0 | f1
      · refine Or.inr ⟨_, _, p1, n1, ?_, ad1_in _ _ _⟩
        cases hh : G (P.pd r 0) (P.nu r 0 (sg ix r a)) with
        | false => rfl
        | true =>
          refine absurd ⟨f0, ?_⟩ c
          rw [hG _ _ p1 n1, hh]
          exact bI_t
      · exact Or.inl f1
  · by_cases c : q = P.pd r 0 ∧ k = P.nu r 0 (sg ix r a)
    · obtain ⟨rfl, rfl⟩ := c
      exact h2 _ (sg_lt ha) (fun i i1 i2 => AP.so_mono h1 (hs i i1 i2))
    · refine h1 q k ?_
      simpa [ad1, c] using z
/-- behind goes -/
noncomputable def tryC (F : Nat) (pc ps pp pts termOf : Nat → Int32) (wanted w2 w1 : Int32) (n : Nat) (v : Int32) (holds value : Nat → Int32) (count fresh : Int32) : Option ((Nat → Int32) × (Nat → Int32) × (Int32) × (Int32)) := if (v + (1 : Int32)) = w2 then (bd_ (M_Model_found F pp pts termOf holds value wanted count fresh w1) fun z8 => M_Model_tryAll_L36 F pc ps pp pts termOf wanted w2 w1 n v z8.1 value z8.2.1 z8.2.2) else (lt_ (v + (1 : Int32)) fun v6 => gd_ v6 6 <| lt_ (upd value v6.toNatClampNeg (-1 : Int32)) fun f7 => M_Model_tryAll_L36 F pc ps pp pts termOf wanted w2 w1 n v6 holds f7 count fresh)
theorem tryL_step {wanted w2 w1 : Int32} {n v x : Nat} {holds value : Nat → Int32} {count fresh : Int32} (hv : v < 6) (hx : x < 12) (ex : value v = yv x) : M_Model_tryAll_L36 F pc ps pp pts termOf wanted w2 w1 (n + 1) (nI v) holds value count fresh = bd_ (M_Model_goes F pc ps pp pts termOf holds (upd value v (nI x)) w1 (nI (v + 1))) fun z5 => if z5 = 0 then (M_Model_tryAll_L36 F pc ps pp pts termOf wanted w2 w1 n (nI v) holds (upd value v (nI x)) count fresh) else tryC F pc ps pp pts termOf wanted w2 w1 n (nI v) holds (upd value v (nI x)) count fresh := by
  have e12 : ¬ nI x = (12 : Int32) := fun z => by have := (nI_eq (a := x) (b := 12) (by omega) (by decide)).mp z; omega
  conv => lhs; unfold M_Model_tryAll_L36
  rw [if_neg (nI_pos (by omega)), gd_n _ hv (by decide), gd_n _ hv (by decide), lt_e, gd_n _ hv (by decide), nI_clamp (show v < 2 ^ 31 by omega), ex, yv_1s, pk_us, if_neg e12, nI_1]
  unfold tryC
  rw [nI_1]
theorem tryL_end {wanted w2 w1 : Int32} {n v : Nat} {holds value : Nat → Int32} {count fresh : Int32} (hv : v < 6) (ex : value v = yv 12) : M_Model_tryAll_L36 F pc ps pp pts termOf wanted w2 w1 (n + 1) (nI v) holds value count fresh = M_Model_tryAll_L36 F pc ps pp pts termOf wanted w2 w1 n (yv v) holds (upd value v (nI 12)) count fresh := by
  conv => lhs; unfold M_Model_tryAll_L36
  rw [if_neg (nI_pos (by omega)), gd_n _ hv (by decide), gd_n _ hv (by decide), lt_e, gd_n _ hv (by decide), nI_clamp (show v < 2 ^ 31 by omega), ex, yv_1s, pk_us, if_pos (show nI 12 = (12 : Int32) from rfl), lt_e, nI_m1]
/-- goes says of a prefix what its parts say -/
theorem RM_goes (ok : P.ok) (io : P.ixo ix mv) (hm : RM P ix mv pc ps pp pts termOf vc) (hF : 6 < F) {r : Nat} (hr : r < P.R) {N : Nat → Nat → Prop} (hneg : ∀ i, 1 ≤ i → i ≤ P.K r → P.kd r i = 2 → P.pd r i ≠ P.pd r 0) {holds value : Nat → Int32} {G : Nat → Nat → Bool} {a : Nat → Nat} {v : Nat} (hv6 : v < 6) (hG : HB holds G) (hv : ∀ y, y < v → value y = nI (a y)) (ha : ∀ y, a y < 12) (hN : ∀ q k, q ≠ P.pd r 0 → (N q k ↔ G q k = true)) : (M_Model_goes F pc ps pp pts termOf holds value (nI r) (nI v) = some 1 ∧ ∀ i, 1 ≤ i → i ≤ P.K r → P.lv ix r i = v → P.so (GP G) N r i (sg ix r a)) ∨ (M_Model_goes F pc ps pp pts termOf holds value (nI r) (nI v) = some 0 ∧ ∃ i, 1 ≤ i ∧ i ≤ P.K r ∧ P.lv ix r i = v ∧ ¬ P.so (GP G) N r i (sg ix r a)) := by
  have k5 := (ok.2 r hr).1
  have g := S_goes (F := F) (holds := holds) (value := value) (lv := P.lv ix r) (so := fun i => pt G (P.kd r i) (P.pd r i) (P.wd r i) (fun t => tv (sg ix r a) (P.tm r i t))) (show r < 16 by have := ok.1; omega) k5 (hm r hr).1 (show v < 10 by omega) hF (fun i i1 i2 => RM_lv ok io hm (by omega) hr i2) (fun i i1 i2 e => RM_so ok io hm (by omega) hr i1 i2 hG (fun y hy => ⟨hv y (by omega), ha y⟩))
  have tr : ∀ i, 1 ≤ i → i ≤ P.K r → (pt G (P.kd r i) (P.pd r i) (P.wd r i) (fun t => tv (sg ix r a) (P.tm r i t)) = true ↔ P.so (GP G) N r i (sg ix r a)) := fun i i1 i2 => pt_so (((ok.2 r hr).2.2 i i2).2.1 i1) (fun z k => hN _ _ (hneg i i1 i2 z))
  by_cases c : ∀ i, 1 ≤ i → i ≤ P.K r → P.lv ix r i = v → pt G (P.kd r i) (P.pd r i) (P.wd r i) (fun t => tv (sg ix r a) (P.tm r i t)) = true
  · exact Or.inl ⟨g.1 c, fun i i1 i2 e => (tr i i1 i2).mp (c i i1 i2 e)⟩
  · refine Or.inr ⟨g.2 c, ?_⟩
    refine Classical.byContradiction (fun h => c (fun i i1 i2 e => (tr i i1 i2).mpr (Classical.byContradiction (fun z => h ⟨i, i1, i2, e, z⟩))))
def cst : Nat → Nat → Nat
  | 0, d => d + 1
  | k + 1, d => d * (1 + cst k 12) + 1
/-- one level, value by value; H: what one value does -/
theorem S_tryD (ok : P.ok) (io : P.ixo ix mv) (hm : RM P ix mv pc ps pp pts termOf vc) (hF : 6 < F) {r : Nat} (hr : r < P.R) {N : Nat → Nat → Prop} (hneg : ∀ i, 1 ≤ i → i ≤ P.K r → P.kd r i = 2 → P.pd r i ≠ P.pd r 0) {v c : Nat} (hv6 : v < 5)
    (H : ∀ (holds value : Nat → Int32) (count fresh : Int32) (G : Nat → Nat → Bool) (a : Nat → Nat), HB holds G → (∀ y, y < v + 1 → value y = nI (a y)) → (∀ y, a y < 12) → (∀ i, 1 ≤ i → i ≤ P.K r → P.lv ix r i ≤ v + 1 → P.so (GP G) N r i (sg ix r a)) → (∀ q k, q ≠ P.pd r 0 → (N q k ↔ G q k = true)) → (fresh = 0 ∨ fresh = 1) →
      ∃ m holds' value' fresh' G', m ≤ c ∧ (∀ n, tryC F pc ps pp pts termOf (-1) (nI (mv r)) (nI r) (n + m) (nI v) holds value count fresh = M_Model_tryAll_L36 F pc ps pp pts termOf (-1) (nI (mv r)) (nI r) n (nI v) holds' value' count fresh') ∧ HB holds' G' ∧ (∀ y, y < v + 1 → value' y = value y) ∧ Gro P N r G G' fresh fresh' ∧ ∀ b, (∀ y, b y < 12) → (∀ y, y < v + 1 → b y = a y) → P.fits (GP G) N r (sg ix r b) → G' (P.pd r 0) (P.nu r 0 (sg ix r b)) = true) :
    ∀ (d x : Nat) (holds value : Nat → Int32) (count fresh : Int32) (G : Nat → Nat → Bool) (a : Nat → Nat), x + d = 12 → HB holds G → (∀ y, y < v → value y = nI (a y)) → (∀ y, a y < 12) → value v = yv x → (∀ i, 1 ≤ i → i ≤ P.K r → P.lv ix r i ≤ v → P.so (GP G) N r i (sg ix r a)) → (∀ q k, q ≠ P.pd r 0 → (N q k ↔ G q k = true)) → (fresh = 0 ∨ fresh = 1) →
      ∃ m holds' value' fresh' G', m ≤ d * (1 + c) + 1 ∧ (∀ n, M_Model_tryAll_L36 F pc ps pp pts termOf (-1) (nI (mv r)) (nI r) (n + m) (nI v) holds value count fresh = M_Model_tryAll_L36 F pc ps pp pts termOf (-1) (nI (mv r)) (nI r) n (yv v) holds' value' count fresh') ∧ HB holds' G' ∧ (∀ y, y < v → value' y = value y) ∧ Gro P N r G G' fresh fresh' ∧ ∀ b, (∀ y, b y < 12) → (∀ y, y < v → b y = a y) → x ≤ b v → P.fits (GP G) N r (sg ix r b) → G' (P.pd r 0) (P.nu r 0 (sg ix r b)) = true
  | 0, x, holds, value, count, fresh, G, a, hx, hG, hv, ha, ex, hs, hN, hfr => by
    have : x = 12 := by omega
    subst this
    refine ⟨1, holds, upd value v (nI 12), fresh, G, by omega, fun n => tryL_end (by omega) ex, hG, fun y hy => pk_un (by omega), Gro.refl hfr, fun b hb _ h12 _ => ?_⟩
    have := hb v
    omega
  | d + 1, x, holds, value, count, fresh, G, a, hx, hG, hv, ha, ex, hs, hN, hfr => by
    have hx12 : x < 12 := by omega
    have hmul : (d + 1) * (1 + c) = d * (1 + c) + (1 + c) := Nat.succ_mul d (1 + c)
    have hv1 : ∀ y, y < v + 1 → upd value v (nI x) y = nI ((fun y => if y = v then x else a y) y) := fun y hy => by
      by_cases e : y = v
      · subst e; rw [pk_us]; exact congrArg nI (if_pos rfl).symm
      · rw [pk_un e, hv y (by omega)]; exact congrArg nI (if_neg e).symm
    have ha1 : ∀ y, (fun y => if y = v then x else a y) y < 12 := fun y => by
      show (if y = v then x else a y) < 12
      split
      · exact hx12
      · exact ha y
    have hs1 : ∀ i, 1 ≤ i → i ≤ P.K r → P.lv ix r i ≤ v → P.so (GP G) N r i (sg ix r (fun y => if y = v then x else a y)) := fun i i1 i2 l => AP.so_eq ((ok.2 r hr).2.2 i i2).2.2.2.1 (fun y hy => (if_neg (by omega)).symm) (hs i i1 i2 l)
    have e9 : upd value v (nI x) v = yv (x + 1) := by rw [pk_us]; rfl
    rcases RM_goes ok io hm hF hr hneg (show v + 1 < 6 by omega) hG hv1 ha1 hN with ⟨g, gs⟩ | ⟨g, i, i1, i2, il, gs⟩
    · obtain ⟨m1, h1, v1, f1, G1, a1, a2, a3, a4, a5, a6⟩ := H holds (upd value v (nI x)) count fresh G _ hG hv1 ha1 (fun i i1 i2 l => by
        by_cases e : P.lv ix r i = v + 1
        · exact gs i i1 i2 e
        · exact hs1 i i1 i2 (by omega)) hN hfr
      have hN1 : ∀ q k, q ≠ P.pd r 0 → (N q k ↔ G1 q k = true) := fun q k z => by rw [a5.2.1 q k z]; exact hN q k z
      obtain ⟨m2, h2, v2, f2, G2, b1, b2, b3, b4, b5, b6⟩ := S_tryD ok io hm hF hr hneg hv6 H d (x + 1) h1 v1 count f1 G1 a (by omega) a3 (fun y hy => by rw [a4 y (by omega), pk_un (by omega)]; exact hv y hy) ha (by rw [a4 v (by omega)]; exact e9) (fun i i1 i2 l => AP.so_mono a5.1 (hs i i1 i2 l)) hN1 a5.2.2.1
      refine ⟨m2 + m1 + 1, h2, v2, f2, G2, by omega, fun n => ?_, b3, fun y hy => by rw [b4 y hy, a4 y (by omega), pk_un (by omega)], a5.trans b5, fun b hb hba hxb hfit => ?_⟩
      · rw [show n + (m2 + m1 + 1) = (n + m2 + m1) + 1 by omega, tryL_step (by omega) hx12 ex, bd_e _ g, if_neg (by decide), a2, b2]
      · by_cases e : b v = x
        · refine b5.1 _ _ (a6 b hb (fun y hy => ?_) hfit)
          by_cases e2 : y = v
          · rw [e2, e]; exact (if_pos rfl).symm
          · rw [hba y (by omega)]; exact (if_neg e2).symm
        · exact b6 b hb hba (by omega) (AP.fits_mono a5.1 hfit)
    · obtain ⟨m2, h2, v2, f2, G2, b1, b2, b3, b4, b5, b6⟩ := S_tryD ok io hm hF hr hneg hv6 H d (x + 1) holds (upd value v (nI x)) count fresh G a (by omega) hG (fun y hy => by rw [pk_un (by omega)]; exact hv y hy) ha e9 hs hN hfr
      refine ⟨m2 + 1, h2, v2, f2, G2, by omega, fun n => ?_, b3, fun y hy => by rw [b4 y hy, pk_un (by omega)], b5, fun b hb hba hxb hfit => ?_⟩
      · rw [show n + (m2 + 1) = (n + m2) + 1 by omega, tryL_step (by omega) hx12 ex, bd_e _ g, if_pos rfl, b2]
      · by_cases e : b v = x
        · refine absurd (AP.so_eq ((ok.2 r hr).2.2 i i2).2.2.2.1 (fun y hy => ?_) (hfit i i1 i2)) gs
          by_cases e2 : y = v
          · rw [e2, e]; exact (if_pos rfl).symm
          · rw [hba y (by omega)]; exact (if_neg e2).symm
        · exact b6 b hb hba (by omega) hfit
theorem S_tryL (ok : P.ok) (io : P.ixo ix mv) (hm : RM P ix mv pc ps pp pts termOf vc) (hF : 6 < F) {r : Nat} (hr : r < P.R) {N : Nat → Nat → Prop} (hneg : ∀ i, 1 ≤ i → i ≤ P.K r → P.kd r i = 2 → P.pd r i ≠ P.pd r 0) : ∀ (k v : Nat), v + k + 1 = mv r → 
    ∀ (d x : Nat) (holds value : Nat → Int32) (count fresh : Int32) (G : Nat → Nat → Bool) (a : Nat → Nat), x + d = 12 → HB holds G → (∀ y, y < v → value y = nI (a y)) → (∀ y, a y < 12) → value v = yv x → (∀ i, 1 ≤ i → i ≤ P.K r → P.lv ix r i ≤ v → P.so (GP G) N r i (sg ix r a)) → (∀ q k, q ≠ P.pd r 0 → (N q k ↔ G q k = true)) → (fresh = 0 ∨ fresh = 1) →
      ∃ m holds' value' fresh' G', m ≤ cst k d ∧ (∀ n, M_Model_tryAll_L36 F pc ps pp pts termOf (-1) (nI (mv r)) (nI r) (n + m) (nI v) holds value count fresh = M_Model_tryAll_L36 F pc ps pp pts termOf (-1) (nI (mv r)) (nI r) n (yv v) holds' value' count fresh') ∧ HB holds' G' ∧ (∀ y, y < v → value' y = value y) ∧ Gro P N r G G' fresh fresh' ∧ ∀ b, (∀ y, b y < 12) → (∀ y, y < v → b y = a y) → x ≤ b v → P.fits (GP G) N r (sg ix r b) → G' (P.pd r 0) (P.nu r 0 (sg ix r b)) = true
  | 0, v, hk, d, x, holds, value, count, fresh, G, a, hx, hG, hv, ha, ex, hs, hN, hfr => by
    have m4 := (io r hr).1
    have := S_tryD (F := F) (c := 0) ok io hm hF hr hneg (show v < 5 by omega) (fun holds value count fresh G a hG hv ha hs hN hfr => by
      obtain ⟨h1, f1, e1, e2, e3⟩ := RM_found (F := F) (N := N) (count := count) ok io hm hF hr hG (fun y hy => hv y (by omega)) ha hfr (fun i i1 i2 => hs i i1 i2 (by have := AP.lv_mv io hr i2; omega))
      refine ⟨0, h1, value, f1, _, Nat.le_refl 0, fun n => ?_, e2, fun y _ => rfl, e3, fun b hb hba hfit => ?_⟩
      · unfold tryC
        rw [nI_1, if_pos (congrArg nI (by omega)), bd_e _ e1]
        rfl
      · have eh : P.nu r 0 (sg ix r b) = P.nu r 0 (sg ix r a) := nmv_congr (fun t ht => AP.tv_eq (fun y hy => hba y (by have := AP.lv_mv io hr (i := 0) (Nat.zero_le _); omega)) ht)
        rw [eh]
        exact ad1_in _ _ _) d x holds value count fresh G a hx hG hv ha ex hs hN hfr
    obtain ⟨m, h', v', f', G', a1, a2⟩ := this
    exact ⟨m, h', v', f', G', by unfold cst; omega, a2⟩
  | k + 1, v, hk, d, x, holds, value, count, fresh, G, a, hx, hG, hv, ha, ex, hs, hN, hfr => by
    have m4 := (io r hr).1
    exact S_tryD (F := F) (c := cst k 12) ok io hm hF hr hneg (show v < 5 by omega) (fun holds value count fresh G a hG hv ha hs hN hfr => by
      obtain ⟨m, h1, v1, f1, G1, a1, a2, a3, a4, a5, a6⟩ := S_tryL ok io hm hF hr hneg k (v + 1) (by omega) 12 0 holds (upd value (v + 1) (-1)) count fresh G a rfl hG (fun y hy => by rw [pk_un (by omega)]; exact hv y hy) ha (by rw [pk_us]; rfl) hs hN hfr
      refine ⟨m, h1, v1, f1, G1, a1, fun n => ?_, a3, fun y hy => by rw [a4 y hy, pk_un (by omega)], a5, fun b hb hba hfit => a6 b hb hba (Nat.zero_le _) hfit⟩
      unfold tryC
      rw [nI_1, if_neg (fun z => by have := (nI_eq (a := v + 1) (b := mv r) (by omega) (by omega)).mp z; omega), lt_e, gd_n _ (show v + 1 < 6 by omega) (by decide), lt_e, nI_clamp (show v + 1 < 2 ^ 31 by omega)]
      exact a2 n) d x holds value count fresh G a hx hG hv ha ex hs hN hfr
/-- a rule is tried: what it tells is held, and nothing else -/
theorem S_tryAll (ok : P.ok) (io : P.ixo ix mv) (hm : RM P ix mv pc ps pp pts termOf vc) (hF : 24506 < F) {r : Nat} (hr : r < P.R) {N : Nat → Nat → Prop} (hneg : ∀ i, 1 ≤ i → i ≤ P.K r → P.kd r i = 2 → P.pd r i ≠ P.pd r 0) {holds value : Nat → Int32} {count fresh : Int32} {G : Nat → Nat → Bool} (hG : HB holds G) (hN : ∀ q k, q ≠ P.pd r 0 → (N q k ↔ G q k = true)) (hfr : fresh = 0 ∨ fresh = 1) : ∃ holds' value' fresh' G', M_Model_tryAll F pc ps pp pts termOf vc holds value (-1) count fresh (nI r) = some (holds', value', count, fresh') ∧ HB holds' G' ∧ Gro P N r G G' fresh fresh' ∧ ∀ b, (∀ y, b y < 12) → P.fits (GP G) N r (sg ix r b) → G' (P.pd r 0) (P.nu r 0 (sg ix r b)) = true := by
  have m4 := (io r hr).1
  have r16 := ok.1
  have e0 : (0 : Int32) = nI 0 := rfl
  unfold M_Model_tryAll
  rw [gd_n _ (show r < 16 by omega) (by decide), lt_e, nI_clamp (show r < 2 ^ 31 by omega), (hm r hr).2.1]
  rcases RM_goes (F := F) (a := fun _ => 0) (v := 0) (value := value) ok io hm (by omega) hr hneg (by decide) hG (fun y hy => absurd hy (Nat.not_lt_zero _)) (fun _ => by decide) hN with ⟨g, gs⟩ | ⟨g, i, i1, i2, il, gs⟩
  · have g : M_Model_goes F pc ps pp pts termOf holds value (nI r) (0 : Int32) = some 1 := g
    rw [bd_e _ g, if_neg (by decide), gd_e _ (show vp_in (0 : Int32) 6 from vp_in_nI (show 0 < 6 by decide) (by decide)), lt_e]
    by_cases c : mv r = 0
    · obtain ⟨h1, f1, e1, e2, e3⟩ := RM_found (F := F) (N := N) (count := count) (value := upd value (0 : Int32).toNatClampNeg (-1)) (a := fun _ => 0) ok io hm (by omega) hr hG (fun y hy => by omega) (fun _ => by decide) hfr (fun i i1 i2 => gs i i1 i2 (by have := AP.lv_mv io hr i2; omega))
      rw [if_pos (by rw [c]; rfl), bd_e _ e1]
      refine ⟨_, _, _, _, rfl, e2, e3, fun b hb hfit => ?_⟩
      have eh : P.nu r 0 (sg ix r b) = P.nu r 0 (sg ix r (fun _ => 0)) := nmv_congr (fun t ht => AP.tv_eq (fun y hy => by have := AP.lv_mv io hr (i := 0) (Nat.zero_le _); omega) ht)
      rw [eh]
      exact ad1_in _ _ _
    · obtain ⟨m, h1, v1, f1, G1, a1, a2, a3, a4, a5, a6⟩ := S_tryL (F := F) ok io hm (by omega) hr hneg (mv r - 1) 0 (by omega) 12 0 holds (upd value (0 : Int32).toNatClampNeg (-1)) count fresh G (fun _ => 0) rfl hG (fun y hy => absurd hy (Nat.not_lt_zero _)) (fun _ => by decide) (by exact pk_us) (fun i i1 i2 l => gs i i1 i2 (by omega)) hN hfr
      have hc : cst (mv r - 1) 12 ≤ 24505 := by
        have : mv r - 1 = 0 ∨ mv r - 1 = 1 ∨ mv r - 1 = 2 ∨ mv r - 1 = 3 := by omega
        rcases this with e | e | e | e <;> rw [e] <;> decide
      obtain ⟨k, hk⟩ : ∃ k, F = (k + 1) + m := ⟨F - m - 1, by omega⟩
      have e8 : M_Model_tryAll_L36 F pc ps pp pts termOf (-1) (nI (mv r)) (nI r) F (0 : Int32) holds (upd value (0 : Int32).toNatClampNeg (-1)) count fresh = some (h1, v1, count, f1) := by
        have := a2 (k + 1)
        rw [← hk] at this
        refine this.trans ?_
        unfold M_Model_tryAll_L36
        rw [if_pos (show yv 0 < 0 by decide +kernel)]
      rw [if_neg (show ¬ nI (mv r) = (0 : Int32) from fun z => c ((nI_eq (a := mv r) (b := 0) (by omega) (by decide)).mp z)), bd_e _ e8]
      exact ⟨_, _, _, _, rfl, a3, a5, fun b hb hfit => a6 b hb (fun y hy => absurd hy (Nat.not_lt_zero _)) (Nat.zero_le _) hfit⟩
  · have g : M_Model_goes F pc ps pp pts termOf holds value (nI r) (0 : Int32) = some 0 := g
    rw [bd_e _ g, if_pos rfl]
    refine ⟨_, _, _, _, rfl, hG, Gro.refl hfr, fun b hb hfit => ?_⟩
    exact absurd (AP.so_eq ((ok.2 r hr).2.2 i i2).2.2.2.1 (fun y hy => by omega) (hfit i i1 i2)) gs
end
