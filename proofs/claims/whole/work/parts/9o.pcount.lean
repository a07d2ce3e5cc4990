/-! how often the reference finds a fact -/
noncomputable def ind (p : Prop) : Nat := @ite Nat p (Classical.propDecidable p) 1 0
theorem ind_t {p : Prop} (h : p) : ind p = 1 := if_pos h
theorem ind_f {p : Prop} (h : ¬ p) : ind p = 0 := if_neg h
theorem ind_congr {p q : Prop} (h : p ↔ q) : ind p = ind q := by rw [propext h]
def sx (f : Nat → Nat) : Nat → Nat → Nat
  | 0, _ => 0
  | d + 1, x => f x + sx f d (x + 1)
theorem sx_congr {f g : Nat → Nat} : ∀ {d x : Nat}, (∀ c, x ≤ c → c < x + d → f c = g c) → sx f d x = sx g d x
  | 0, _, _ => rfl
  | d + 1, x, h => by
    show f x + sx f d (x + 1) = g x + sx g d (x + 1)
    rw [h x (Nat.le_refl x) (by omega), sx_congr (fun c h1 h2 => h c (by omega) (by omega))]
theorem sx_zero {f : Nat → Nat} : ∀ {d x : Nat}, (∀ c, x ≤ c → c < x + d → f c = 0) → sx f d x = 0
  | 0, _, _ => rfl
  | d + 1, x, h => by
    show f x + sx f d (x + 1) = 0
    rw [h x (Nat.le_refl x) (by omega), sx_zero (fun c h1 h2 => h c (by omega) (by omega))]
def ua (a : Nat → Nat) (v c : Nat) : Nat → Nat := fun y => if y = v then c else a y
noncomputable def cN (Q : (Nat → Nat) → Prop) : Nat → Nat → (Nat → Nat) → Nat
  | 0, _, a => ind (Q a)
  | k + 1, v, a => sx (fun c => cN Q k (v + 1) (ua a v c)) 12 0
theorem cN_zero {Q : (Nat → Nat) → Prop} : ∀ (k v : Nat) (a : Nat → Nat), (∀ b, (∀ y, y < v → b y = a y) → ¬ Q b) → cN Q k v a = 0
  | 0, v, a, h => ind_f (h a (fun _ _ => rfl))
  | k + 1, v, a, h => sx_zero (fun c _ _ => cN_zero k (v + 1) (ua a v c) (fun b hb => h b (fun y hy => by
      rw [hb y (by omega)]
      exact if_neg (by omega))))
section
variable {F : Nat} {P : AP} {ix : Nat → Nat → Nat} {mv : Nat → Nat} {pc ps pp pts termOf vc : Nat → Int32}
/-- the body is so and the head tells g -/
def AP.qn (P : AP) (ix : Nat → Nat → Nat) (G : Nat → Nat → Bool) (r g : Nat) (b : Nat → Nat) : Prop := P.fits (GP G) (GP G) r (sg ix r b) ∧ 1728 * P.pd r 0 + P.nu r 0 (sg ix r b) = g
theorem S_cntD (ok : P.ok) (io : P.ixo ix mv) (hm : RM P ix mv pc ps pp pts termOf vc) (hF : 6 < F) {r : Nat} (hr : r < P.R) (hneg : ∀ i, 1 ≤ i → i ≤ P.K r → P.kd r i = 2 → P.pd r i ≠ P.pd r 0) {holds : Nat → Int32} {G : Nat → Nat → Bool} (hG : HB holds G) {g : Nat} {fresh : Int32} {v c k : Nat} (hv6 : v < 5)
    (H : ∀ (value : Nat → Int32) (count : Nat) (a : Nat → Nat), (∀ y, y < v + 1 → value y = nI (a y)) → (∀ y, a y < 12) → (∀ i, 1 ≤ i → i ≤ P.K r → P.lv ix r i ≤ v + 1 → P.so (GP G) (GP G) r i (sg ix r a)) →
      ∃ m value', m ≤ c ∧ (∀ n, tryC F pc ps pp pts termOf (nI g) (nI (mv r)) (nI r) (n + m) (nI v) holds value (nI count) fresh = M_Model_tryAll_L36 F pc ps pp pts termOf (nI g) (nI (mv r)) (nI r) n (nI v) holds value' (nI (count + cN (P.qn ix G r g) k (v + 1) a)) fresh) ∧ ∀ y, y < v + 1 → value' y = value y) :
    ∀ (d x : Nat) (value : Nat → Int32) (count : Nat) (a : Nat → Nat), x + d = 12 → (∀ y, y < v → value y = nI (a y)) → (∀ y, a y < 12) → value v = yv x → (∀ i, 1 ≤ i → i ≤ P.K r → P.lv ix r i ≤ v → P.so (GP G) (GP G) r i (sg ix r a)) →
      ∃ m value', m ≤ d * (1 + c) + 1 ∧ (∀ n, M_Model_tryAll_L36 F pc ps pp pts termOf (nI g) (nI (mv r)) (nI r) (n + m) (nI v) holds value (nI count) fresh = M_Model_tryAll_L36 F pc ps pp pts termOf (nI g) (nI (mv r)) (nI r) n (yv v) holds value' (nI (count + sx (fun c => cN (P.qn ix G r g) k (v + 1) (ua a v c)) d x)) fresh) ∧ ∀ y, y < v → value' y = value y
  | 0, x, value, count, a, hx, hv, ha, ex, hs => by
    have : x = 12 := by omega
    subst this
    exact ⟨1, upd value v (nI 12), by omega, fun n => tryL_end (by omega) ex, fun y hy => pk_un (by omega)⟩
  | d + 1, x, value, count, a, hx, hv, ha, ex, hs => by
    have hx12 : x < 12 := by omega
    have hmul : (d + 1) * (1 + c) = d * (1 + c) + (1 + c) := Nat.succ_mul d (1 + c)
    have hv1 : ∀ y, y < v + 1 → upd value v (nI x) y = nI (ua a v x y) := fun y hy => by
      by_cases e : y = v
      · subst e; rw [pk_us]; exact congrArg nI (if_pos rfl).symm
      · rw [pk_un e, hv y (by omega)]; exact congrArg nI (if_neg e).symm
    have ha1 : ∀ y, ua a v x y < 12 := fun y => by
      show (if y = v then x else a y) < 12
      split
      · exact hx12
      · exact ha y
    have hs1 : ∀ i, 1 ≤ i → i ≤ P.K r → P.lv ix r i ≤ v → P.so (GP G) (GP G) r i (sg ix r (ua a v x)) := fun i i1 i2 l => AP.so_eq ((ok.2 r hr).2.2 i i2).2.2.2.1 (fun y hy => (if_neg (by omega)).symm) (hs i i1 i2 l)
    have e9 : upd value v (nI x) v = yv (x + 1) := by rw [pk_us]; rfl
    rcases RM_goes (N := GP G) ok io hm hF hr hneg (show v + 1 < 6 by omega) hG hv1 ha1 (fun _ _ _ => Iff.rfl) with ⟨gg, gs⟩ | ⟨gg, i, i1, i2, il, gs⟩
    · obtain ⟨m1, v1, a1, a2, a4⟩ := H (upd value v (nI x)) count _ hv1 ha1 (fun i i1 i2 l => by
        by_cases e : P.lv ix r i = v + 1
        · exact gs i i1 i2 e
        · exact hs1 i i1 i2 (by omega))
      obtain ⟨m2, v2, b1, b2, b4⟩ := S_cntD ok io hm hF hr hneg hG hv6 H d (x + 1) v1 (count + cN (P.qn ix G r g) k (v + 1) (ua a v x)) a (by omega) (fun y hy => by rw [a4 y (by omega), pk_un (by omega)]; exact hv y hy) ha (by rw [a4 v (by omega)]; exact e9) hs
      refine ⟨m2 + m1 + 1, v2, by omega, fun n => ?_, fun y hy => by rw [b4 y hy, a4 y (by omega), pk_un (by omega)]⟩
      rw [show n + (m2 + m1 + 1) = (n + m2 + m1) + 1 by omega, tryL_step (by omega) hx12 ex, bd_e _ gg, if_neg (by decide), a2, b2]
      rw [Nat.add_assoc]
      rfl
    · obtain ⟨m2, v2, b1, b2, b4⟩ := S_cntD ok io hm hF hr hneg hG hv6 H d (x + 1) (upd value v (nI x)) count a (by omega) (fun y hy => by rw [pk_un (by omega)]; exact hv y hy) ha e9 hs
      refine ⟨m2 + 1, v2, by omega, fun n => ?_, fun y hy => by rw [b4 y hy, pk_un (by omega)]⟩
      have z0 : cN (P.qn ix G r g) k (v + 1) (ua a v x) = 0 := cN_zero k (v + 1) _ (fun b hb hq => gs (AP.so_eq ((ok.2 r hr).2.2 i i2).2.2.2.1 (fun y hy => hb y (by omega)) (hq.1 i i1 i2)))
      rw [show n + (m2 + 1) = (n + m2) + 1 by omega, tryL_step (by omega) hx12 ex, bd_e _ gg, if_pos rfl, b2]
      show _ = M_Model_tryAll_L36 F pc ps pp pts termOf (nI g) (nI (mv r)) (nI r) n (yv v) holds v2 (nI (count + (cN (P.qn ix G r g) k (v + 1) (ua a v x) + sx (fun c => cN (P.qn ix G r g) k (v + 1) (ua a v c)) d (x + 1)))) fresh
      rw [z0, Nat.zero_add]
theorem RM_foundW (ok : P.ok) (io : P.ixo ix mv) (hm : RM P ix mv pc ps pp pts termOf vc) (hF : 6 < F) {r : Nat} (hr : r < P.R) {holds value : Nat → Int32} {G : Nat → Nat → Bool} {a : Nat → Nat} {g count : Nat} {fresh : Int32} (hg : g < 17280) (hv : ∀ y, y < mv r → value y = nI (a y)) (ha : ∀ y, a y < 12) (hs : ∀ i, 1 ≤ i → i ≤ P.K r → P.so (GP G) (GP G) r i (sg ix r a)) : M_Model_found F pp pts termOf holds value (nI g) (nI count) fresh (nI r) = some (holds, nI (count + ind (P.qn ix G r g a)), fresh) := by
  obtain ⟨e, n1, p1⟩ := RM_head (F := F) ok io hm (by omega) hr (fun y hy => ⟨hv y hy, ha y⟩)
  rw [S_foundW (holds := holds) (count := nI count) (fresh := fresh) (show 1728 * P.pd r 0 + P.nu r 0 (sg ix r a) < 17280 by omega) hg e]
  by_cases c : 1728 * P.pd r 0 + P.nu r 0 (sg ix r a) = g
  · rw [if_pos c, ind_t ⟨hs, c⟩, nI_1]
  · rw [if_neg c, ind_f (fun z => c z.2), Nat.add_zero]
theorem S_cntL (ok : P.ok) (io : P.ixo ix mv) (hm : RM P ix mv pc ps pp pts termOf vc) (hF : 6 < F) {r : Nat} (hr : r < P.R) (hneg : ∀ i, 1 ≤ i → i ≤ P.K r → P.kd r i = 2 → P.pd r i ≠ P.pd r 0) {holds : Nat → Int32} {G : Nat → Nat → Bool} (hG : HB holds G) {g : Nat} (hg : g < 17280) {fresh : Int32} : ∀ (k v : Nat), v + k + 1 = mv r → 
    ∀ (d x : Nat) (value : Nat → Int32) (count : Nat) (a : Nat → Nat), x + d = 12 → (∀ y, y < v → value y = nI (a y)) → (∀ y, a y < 12) → value v = yv x → (∀ i, 1 ≤ i → i ≤ P.K r → P.lv ix r i ≤ v → P.so (GP G) (GP G) r i (sg ix r a)) →
      ∃ m value', m ≤ cst k d ∧ (∀ n, M_Model_tryAll_L36 F pc ps pp pts termOf (nI g) (nI (mv r)) (nI r) (n + m) (nI v) holds value (nI count) fresh = M_Model_tryAll_L36 F pc ps pp pts termOf (nI g) (nI (mv r)) (nI r) n (yv v) holds value' (nI (count + sx (fun c => cN (P.qn ix G r g) k (v + 1) (ua a v c)) d x)) fresh) ∧ ∀ y, y < v → value' y = value y
  | 0, v, hk, d, x, value, count, a, hx, hv, ha, ex, hs => by
    have m4 := (io r hr).1
    have := S_cntD (F := F) (c := 0) (k := 0) (g := g) (fresh := fresh) ok io hm hF hr hneg hG (show v < 5 by omega) (fun value count a hv ha hs => by
      have e1 := RM_foundW (F := F) (holds := holds) (fresh := fresh) (count := count) ok io hm hF hr hg (fun y hy => hv y (by omega)) ha (fun i i1 i2 => hs i i1 i2 (by have := AP.lv_mv io hr i2; omega))
      refine ⟨0, value, Nat.le_refl 0, fun n => ?_, fun y _ => rfl⟩
      unfold tryC
      rw [nI_1, if_pos (congrArg nI (by omega)), bd_e _ e1]
      rfl) d x value count a hx hv ha ex hs
    obtain ⟨m, v', a1, a2⟩ := this
    exact ⟨m, v', by unfold cst; omega, a2⟩
  | k + 1, v, hk, d, x, value, count, a, hx, hv, ha, ex, hs => by
    have m4 := (io r hr).1
    exact S_cntD (F := F) (c := cst k 12) (k := k + 1) (g := g) (fresh := fresh) ok io hm hF hr hneg hG (show v < 5 by omega) (fun value count a hv ha hs => by
      obtain ⟨m, v1, a1, a2, a4⟩ := S_cntL ok io hm hF hr hneg hG hg (fresh := fresh) k (v + 1) (by omega) 12 0 (upd value (v + 1) (-1)) count a rfl (fun y hy => by rw [pk_un (by omega)]; exact hv y hy) ha (by rw [pk_us]; rfl) hs
      refine ⟨m, v1, a1, fun n => ?_, fun y hy => by rw [a4 y hy, pk_un (by omega)]⟩
      unfold tryC
      rw [nI_1, if_neg (fun z => by have := (nI_eq (a := v + 1) (b := mv r) (by omega) (by omega)).mp z; omega), lt_e, gd_n _ (show v + 1 < 6 by omega) (by decide), lt_e, nI_clamp (show v + 1 < 2 ^ 31 by omega)]
      exact a2 n) d x value count a hx hv ha ex hs
theorem S_cntAll (ok : P.ok) (io : P.ixo ix mv) (hm : RM P ix mv pc ps pp pts termOf vc) (hF : 24506 < F) {r : Nat} (hr : r < P.R) (hneg : ∀ i, 1 ≤ i → i ≤ P.K r → P.kd r i = 2 → P.pd r i ≠ P.pd r 0) {holds value : Nat → Int32} {fresh : Int32} {G : Nat → Nat → Bool} (hG : HB holds G) {g count : Nat} (hg : g < 17280) : ∃ value', M_Model_tryAll F pc ps pp pts termOf vc holds value (nI g) (nI count) fresh (nI r) = some (holds, value', nI (count + cN (P.qn ix G r g) (mv r) 0 (fun _ => 0)), fresh) := by
  have m4 := (io r hr).1
  have r16 := ok.1
  unfold M_Model_tryAll
  rw [gd_n _ (show r < 16 by omega) (by decide), lt_e, nI_clamp (show r < 2 ^ 31 by omega), (hm r hr).2.1]
  rcases RM_goes (F := F) (N := GP G) (a := fun _ => 0) (v := 0) (value := value) ok io hm (by omega) hr hneg (by decide) hG (fun y hy => absurd hy (Nat.not_lt_zero _)) (fun _ => by decide) (fun _ _ _ => Iff.rfl) with ⟨gg, gs⟩ | ⟨gg, i, i1, i2, il, gs⟩
  · have gg : M_Model_goes F pc ps pp pts termOf holds value (nI r) (0 : Int32) = some 1 := gg
    rw [bd_e _ gg, if_neg (by decide), gd_e _ (show vp_in (0 : Int32) 6 from vp_in_nI (show 0 < 6 by decide) (by decide)), lt_e]
    by_cases c : mv r = 0
    · have e1 := RM_foundW (F := F) (holds := holds) (fresh := fresh) (count := count) (value := upd value (0 : Int32).toNatClampNeg (-1)) (a := fun _ => 0) ok io hm (by omega) hr hg (fun y hy => by omega) (fun _ => by decide) (fun i i1 i2 => gs i i1 i2 (by have := AP.lv_mv io hr i2; omega))
      rw [if_pos (by rw [c]; rfl), bd_e _ e1, c]
      exact ⟨_, rfl⟩
    · obtain ⟨m, v1, a1, a2, a4⟩ := S_cntL (F := F) (fresh := fresh) ok io hm (by omega) hr hneg hG hg (mv r - 1) 0 (by omega) 12 0 (upd value (0 : Int32).toNatClampNeg (-1)) count (fun _ => 0) rfl (fun y hy => absurd hy (Nat.not_lt_zero _)) (fun _ => by decide) (by exact pk_us) (fun i i1 i2 l => gs i i1 i2 (by omega))
      have hc : cst (mv r - 1) 12 ≤ 24505 := by
        have : mv r - 1 = 0 ∨ mv r - 1 = 1 ∨ mv r - 1 = 2 ∨ mv r - 1 = 3 := by omega
        rcases this with e | e | e | e <;> rw [e] <;> decide
      obtain ⟨k, hk⟩ : ∃ k, F = (k + 1) + m := ⟨F - m - 1, by omega⟩
      have e8 : M_Model_tryAll_L36 F pc ps pp pts termOf (nI g) (nI (mv r)) (nI r) F (0 : Int32) holds (upd value (0 : Int32).toNatClampNeg (-1)) (nI count) fresh = some (holds, v1, nI (count + sx (fun c => cN (P.qn ix G r g) (mv r - 1) (0 + 1) (ua (fun _ => 0) 0 c)) 12 0), fresh) := by
        have := a2 (k + 1)
        rw [← hk] at this
        refine this.trans ?_
        unfold M_Model_tryAll_L36
        rw [if_pos (show yv 0 < 0 by decide +kernel)]
      rw [if_neg (show ¬ nI (mv r) = (0 : Int32) from fun z => c ((nI_eq (a := mv r) (b := 0) (by omega) (by decide)).mp z)), bd_e _ e8]
      refine ⟨v1, ?_⟩
      obtain ⟨k, hk⟩ : ∃ k, mv r = k + 1 := ⟨mv r - 1, by omega⟩
      rw [hk]
      rfl
  · have gg : M_Model_goes F pc ps pp pts termOf holds value (nI r) (0 : Int32) = some 0 := gg
    rw [bd_e _ gg, if_pos rfl, cN_zero (mv r) 0 _ (fun b _ hq => gs (AP.so_eq ((ok.2 r hr).2.2 i i2).2.2.2.1 (fun y hy => by omega) (hq.1 i i1 i2)))]
    exact ⟨_, rfl⟩
end
