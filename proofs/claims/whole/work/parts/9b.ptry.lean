/-! the reference tries all constants for a rule -/
def AP.ok (P : AP) : Prop := P.R ≤ 16 ∧ ∀ r, r < P.R → P.K r ≤ 5 ∧ P.kd r 0 = 0 ∧ ∀ i, i ≤ P.K r → P.kd r i ≤ 5 ∧ (1 ≤ i → 1 ≤ P.kd r i) ∧ P.wd r i ≤ 3 ∧ (3 ≤ P.kd r i → P.wd r i = 2) ∧ (P.kd r i ≤ 2 → P.pd r i < 10) ∧ ∀ t, t < P.wd r i → P.tm r i t < 38
/-- the numbers of the letters in the reference -/
def AP.ixo (P : AP) (ix : Nat → Nat → Nat) (mv : Nat → Nat) : Prop := ∀ r, r < P.R → mv r ≤ 4 ∧ ∀ i, i ≤ P.K r → ∀ t, t < P.wd r i → 12 ≤ P.tm r i t → ix r (P.tm r i t - 12) < mv r
def AP.mt (P : AP) (ix : Nat → Nat → Nat) (r i t : Nat) : Nat := if P.tm r i t < 12 then P.tm r i t else 100 + ix r (P.tm r i t - 12)
def AP.lv (P : AP) (ix : Nat → Nat → Nat) (r i : Nat) : Nat := lvf (P.mt ix r i) (P.wd r i)
/-- the reference's rows hold the program -/
def RM (P : AP) (ix : Nat → Nat → Nat) (mv : Nat → Nat) (pc ps pp pts termOf vc : Nat → Int32) : Prop := ∀ r, r < P.R → pc r = nI (P.K r) ∧ vc r = nI (mv r) ∧ ∀ i, i ≤ P.K r → ps (6 * r + i) = nI (P.kd r i - 1) ∧ (P.kd r i ≤ 2 → pp (6 * r + i) = nI (P.pd r i)) ∧ pts (6 * r + i) = nI (P.wd r i) ∧ ∀ t, t < P.wd r i → termOf (3 * (6 * r + i) + t) = nI (P.mt ix r i t)
theorem lvf_ge {tm : Nat → Nat} {t : Nat} (h : 100 ≤ tm t) : ∀ {w : Nat}, t < w → tm t - 99 ≤ lvf tm w
  | 0, h1 => absurd h1 (Nat.not_lt_zero _)
  | w + 1, h1 => by
    show tm t - 99 ≤ (if tm w < 100 then lvf tm w else if tm w - 99 ≤ lvf tm w then lvf tm w else tm w - 99)
    by_cases e : t = w
    · subst e
      rw [if_neg (by omega)]
      split <;> omega
    · have := lvf_ge h (show t < w by omega)
      split
      · exact this
      · split <;> omega
theorem lvf_m {tm : Nat → Nat} {m : Nat} : ∀ {w : Nat}, (∀ t, t < w → tm t < 100 + m) → lvf tm w ≤ m
  | 0, _ => Nat.zero_le m
  | w + 1, h => by
    have h1 := lvf_m (tm := tm) (m := m) (w := w) (fun t ht => h t (by omega))
    have h2 := h w (by omega)
    show (if tm w < 100 then lvf tm w else if tm w - 99 ≤ lvf tm w then lvf tm w else tm w - 99) ≤ m
    split
    · exact h1
    · split <;> omega
/-- constants for numbers make constants for letters -/
def sg (ix : Nat → Nat → Nat) (r : Nat) (a : Nat → Nat) : Nat → Nat := fun L => a (ix r L)
theorem AP.tv_eq {P : AP} {ix : Nat → Nat → Nat} {r i : Nat} {a b : Nat → Nat} (h : ∀ y, y < P.lv ix r i → a y = b y) {t : Nat} (ht : t < P.wd r i) : tv (sg ix r a) (P.tm r i t) = tv (sg ix r b) (P.tm r i t) := by
  unfold tv
  by_cases c : P.tm r i t < 12
  · rw [if_pos c, if_pos c]
  · rw [if_neg c, if_neg c]
    have e : P.mt ix r i t = 100 + ix r (P.tm r i t - 12) := if_neg c
    have := lvf_ge (tm := P.mt ix r i) (t := t) (by omega) ht
    exact h _ (by unfold AP.lv; omega)
theorem nmv_congr {u v : Nat → Nat} : ∀ {w : Nat}, (∀ t, t < w → u t = v t) → nmv u w = nmv v w
  | 0, _ => rfl
  | w + 1, h => by
    show nmv u w * 12 + u w = nmv v w * 12 + v w
    rw [nmv_congr (fun t ht => h t (by omega)), h w (by omega)]
theorem AP.so_eq {P : AP} {ix : Nat → Nat → Nat} {X N : Nat → Nat → Prop} {r i : Nat} {a b : Nat → Nat} (hw : 3 ≤ P.kd r i → P.wd r i = 2) (h : ∀ y, y < P.lv ix r i → a y = b y) (s : P.so X N r i (sg ix r a)) : P.so X N r i (sg ix r b) := by
  have e : P.nu r i (sg ix r a) = P.nu r i (sg ix r b) := nmv_congr (fun t ht => AP.tv_eq h ht)
  obtain ⟨s1, s2, s3⟩ := s
  refine ⟨fun z => e ▸ s1 z, fun z => e ▸ s2 z, fun z => ?_⟩
  have := s3 z
  rw [AP.tv_eq h (show 0 < P.wd r i by rw [hw z]; decide), AP.tv_eq h (show 1 < P.wd r i by rw [hw z]; decide)] at this
  exact this
/-- the reference's row of truths -/
def HB (holds : Nat → Int32) (G : Nat → Nat → Bool) : Prop := ∀ q k, q < 10 → k < 1728 → holds (1728 * q + k) = bI (G q k)
def GP (G : Nat → Nat → Bool) : Nat → Nat → Prop := fun q k => G q k = true
theorem pt_so {P : AP} {G : Nat → Nat → Bool} {N : Nat → Nat → Prop} {r i : Nat} {σ : Nat → Nat} (h1 : 1 ≤ P.kd r i) (hN : P.kd r i = 2 → ∀ k, (N (P.pd r i) k ↔ G (P.pd r i) k = true)) : pt G (P.kd r i) (P.pd r i) (P.wd r i) (fun t => tv σ (P.tm r i t)) = true ↔ P.so (GP G) N r i σ := by
  unfold pt AP.so GP AP.nu
  by_cases c1 : P.kd r i = 1
  · rw [if_pos c1]
    exact ⟨fun h => ⟨fun _ => h, fun z => by omega, fun z => by omega⟩, fun h => h.1 c1⟩
  · by_cases c2 : P.kd r i = 2
    · rw [if_neg c1, if_pos c2]
      refine ⟨fun h => ⟨fun z => absurd z c1, fun z y => ?_, fun z => by omega⟩, fun h => ?_⟩
      · rw [(hN c2 _).mp y] at h
        exact absurd h (by decide)
      · have := h.2.1 c2
        rw [hN c2] at this
        simpa using this
    · rw [if_neg c1, if_neg c2]
      exact ⟨fun h => ⟨fun z => absurd z c1, fun z => absurd z c2, fun _ => h⟩, fun h => h.2.2 (by omega)⟩
section
variable {F : Nat} {P : AP} {ix : Nat → Nat → Nat} {mv : Nat → Nat} {pc ps pp pts termOf vc : Nat → Int32}
theorem RM_VM (ok : P.ok) (io : P.ixo ix mv) (hm : RM P ix mv pc ps pp pts termOf vc) {r i : Nat} (hr : r < P.R) (hi : i ≤ P.K r) {value : Nat → Int32} {a : Nat → Nat} (hv : ∀ y, y < P.lv ix r i → value y = nI (a y) ∧ a y < 12) : VM termOf value (6 * r + i) (P.wd r i) (fun t => tv (sg ix r a) (P.tm r i t)) := by
  intro t ht
  obtain ⟨-, -, e⟩ := hm r hr
  obtain ⟨-, -, -, e⟩ := e i hi
  have e := e t ht
  obtain ⟨m4, io⟩ := io r hr
  show tv (sg ix r a) (P.tm r i t) < 12 ∧ (termOf (3 * (6 * r + i) + t) = nI (tv (sg ix r a) (P.tm r i t)) ∨ _)
  unfold tv
  by_cases c : P.tm r i t < 12
  · rw [if_pos c]
    have e2 : P.mt ix r i t = P.tm r i t := if_pos c
    rw [e2] at e
    exact ⟨c, Or.inl e⟩
  · rw [if_neg c]
    have e2 : P.mt ix r i t = 100 + ix r (P.tm r i t - 12) := if_neg c
    have l := lvf_ge (tm := P.mt ix r i) (t := t) (by omega) ht
    have l2 : ix r (P.tm r i t - 12) < P.lv ix r i := by unfold AP.lv; omega
    have l3 := io i hi t ht (by omega)
    rw [e2] at e
    refine ⟨(hv _ l2).2, Or.inr ⟨_, by omega, e, ?_⟩⟩
    rw [(hv _ l2).1]
    exact congrArg nI (if_neg c).symm
theorem AP.lv_mv (io : P.ixo ix mv) {r i : Nat} (hr : r < P.R) (hi : i ≤ P.K r) : P.lv ix r i ≤ mv r := by
  refine lvf_m (fun t ht => ?_)
  unfold AP.mt
  split
  · omega
  · have := (io r hr).2 i hi t ht (by omega); omega
theorem RM_lv (ok : P.ok) (io : P.ixo ix mv) (hm : RM P ix mv pc ps pp pts termOf vc) (hF : 3 < F) {r i : Nat} (hr : r < P.R) (hi : i ≤ P.K r) : P.lv ix r i ≤ 6 ∧ M_Model_lastVariable F pts termOf (nI (6 * r + i)) = some (yv (P.lv ix r i)) := by
  obtain ⟨r16, k1⟩ := ok
  obtain ⟨k5, -, k1⟩ := k1 r hr
  obtain ⟨-, -, w3, -, -, -⟩ := k1 i hi
  obtain ⟨-, -, e⟩ := hm r hr
  obtain ⟨-, -, e1, e2⟩ := e i hi
  have l := AP.lv_mv io hr hi
  have m4 := (io r hr).1
  refine ⟨by omega, S_lastV (tm := P.mt ix r i) (show 6 * r + i < 96 by omega) w3 e1 (fun t ht => ⟨e2 t ht, ?_⟩) hF⟩
  unfold AP.mt
  split
  · omega
  · have := (io r hr).2 i hi t ht (by omega); omega
theorem RM_so (ok : P.ok) (io : P.ixo ix mv) (hm : RM P ix mv pc ps pp pts termOf vc) (hF : 3 < F) {r i : Nat} (hr : r < P.R) (h1 : 1 ≤ i) (hi : i ≤ P.K r) {holds value : Nat → Int32} {G : Nat → Nat → Bool} {a : Nat → Nat} (hG : HB holds G) (hv : ∀ y, y < P.lv ix r i → value y = nI (a y) ∧ a y < 12) : M_Model_isSo F ps pp pts termOf holds value (nI (6 * r + i)) = some (bI (pt G (P.kd r i) (P.pd r i) (P.wd r i) (fun t => tv (sg ix r a) (P.tm r i t)))) := by
  obtain ⟨r16, k1⟩ := ok
  have vm := RM_VM ⟨r16, k1⟩ io hm hr hi hv
  obtain ⟨k5, -, k1⟩ := k1 r hr
  obtain ⟨c5, c1, w3, w2, p10, -⟩ := k1 i hi
  obtain ⟨-, -, e⟩ := hm r hr
  obtain ⟨es, ep, e1, e2⟩ := e i hi
  have c1 := c1 h1
  unfold pt
  by_cases d1 : P.kd r i = 1
  · rw [if_pos d1]
    exact S_isSoM1 (by omega) w3 (p10 (by omega)) (by rw [es, d1]) (ep (by omega)) e1 vm hF hG
  · by_cases d2 : P.kd r i = 2
    · rw [if_neg d1, if_pos d2]
      exact S_isSoM2 (by omega) w3 (p10 (by omega)) (by rw [es, d2]) (ep (by omega)) e1 vm hF hG
    · rw [if_neg d1, if_neg d2]
      rw [w2 (by omega)] at vm
      exact S_isSoM3 (k := P.kd r i - 3) (by omega) (by omega) (by rw [es]; exact congrArg nI (by omega)) vm
theorem RM_head (ok : P.ok) (io : P.ixo ix mv) (hm : RM P ix mv pc ps pp pts termOf vc) (hF : 3 < F) {r : Nat} (hr : r < P.R) {value : Nat → Int32} {a : Nat → Nat} (hv : ∀ y, y < mv r → value y = nI (a y) ∧ a y < 12) : M_Model_factOf F pp pts termOf value (nI (6 * r)) = some (nI (1728 * P.pd r 0 + P.nu r 0 (sg ix r a))) ∧ P.nu r 0 (sg ix r a) < 1728 ∧ P.pd r 0 < 10 := by
  obtain ⟨r16, k1⟩ := ok
  have vm := RM_VM ⟨r16, k1⟩ io hm hr (Nat.zero_le _) (fun y hy => hv y (by have := AP.lv_mv io hr (i := 0) (Nat.zero_le _); omega))
  obtain ⟨k5, k0, k1⟩ := k1 r hr
  obtain ⟨c5, -, w3, w2, p10, -⟩ := k1 0 (Nat.zero_le _)
  obtain ⟨-, -, e⟩ := hm r hr
  obtain ⟨es, ep, e1, e2⟩ := e 0 (Nat.zero_le _)
  exact ⟨S_factOf (F := F) (i := 6 * r) (by omega) w3 (ep (by omega)) e1 vm hF, nmv_lt3 w3 (fun t ht => (vm t ht).1), p10 (by omega)⟩
end
