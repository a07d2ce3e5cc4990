/-! the class' plan for a rule's parts -/
/-- the class' rows hold the program; s r: the entry of rule r's head -/
def PC (P : AP) (s : Nat → Nat) (kind who width term start : Nat → Int32) : Prop := ∀ r, r < P.R → start r = nI (s r) ∧ start (r + 1) = nI (s r + P.K r + 1) ∧ s r + P.K r < 240 ∧ ∀ i, i ≤ P.K r → kind (s r + i) = nI (P.kd r i) ∧ (P.kd r i ≤ 2 → who (s r + i) = nI (P.pd r i)) ∧ width (s r + i) = nI (P.wd r i) ∧ ∀ t, t < P.wd r i → term (3 * (s r + i) + t) = nI (P.tm r i t)
/-- the letters of a part -/
def AP.le (P : AP) (r i L : Nat) : Bool := lett (P.tm r i) (P.wd r i) L
theorem lett_iff {tm : Nat → Nat} {L : Nat} : ∀ {w : Nat}, lett tm w L = true ↔ ∃ t, t < w ∧ tm t = 12 + L
  | 0 => ⟨fun h => absurd (show false = true from h) (by decide), fun ⟨t, h, _⟩ => absurd h (Nat.not_lt_zero _)⟩
  | w + 1 => by
    show (lett tm w L || decide (tm w = 12 + L)) = true ↔ _
    rw [Bool.or_eq_true, lett_iff, decide_eq_true_iff]
    constructor
    · rintro (⟨t, h1, h2⟩ | h)
      · exact ⟨t, by omega, h2⟩
      · exact ⟨w, by omega, h⟩
    · rintro ⟨t, h1, h2⟩
      by_cases e : t = w
      · subst e; exact Or.inr h2
      · exact Or.inl ⟨t, by omega, h2⟩
/-- what a rule denies, compares or tells, its atoms bind -/
def AP.safe (P : AP) : Prop := ∀ r, r < P.R → ∀ i, i ≤ P.K r → P.kd r i ≠ 1 → ∀ L, P.le r i L = true → ∃ j, 1 ≤ j ∧ j ≤ P.K r ∧ P.kd r j = 1 ∧ P.le r j L = true
theorem ct_le_or {f g h : Nat → Bool} (e : ∀ n, f n = true → g n = true ∨ h n = true) : ∀ N, ct f N ≤ ct g N + ct h N
  | 0 => Nat.le_refl 0
  | n + 1 => by
    have := ct_le_or e n
    show ct f n + (if f n then 1 else 0) ≤ ct g n + (if g n then 1 else 0) + (ct h n + (if h n then 1 else 0))
    cases hf : f n with
    | false => simp; omega
    | true =>
      rcases e n hf with z | z
      · rw [z]; simp; omega
      · rw [z]; simp; omega
theorem ct_eq1 (a : Nat) : ∀ N, ct (fun L => decide (a = 12 + L)) N ≤ 1
  | 0 => Nat.zero_le 1
  | n + 1 => by
    show ct (fun L => decide (a = 12 + L)) n + (if decide (a = 12 + n) then 1 else 0) ≤ 1
    by_cases e : a = 12 + n
    · have : ct (fun L => decide (a = 12 + L)) n = 0 := by
        rw [ct_congr (g := fun _ => false) (fun m hm => decide_eq_false (by omega))]
        exact ct_false n
      rw [this]; simp [e]
    · have := ct_eq1 a n
      simp [e, this]
theorem ct_lett {tm : Nat → Nat} {g : Nat → Bool} {N : Nat} : ∀ w, ct (fun L => lett tm w L && g L) N ≤ w
  | 0 => by
    have e : ct (fun L => lett tm 0 L && g L) N = 0 := (ct_congr (g := fun _ => false) (fun m _ => rfl)).trans (ct_false N)
    omega
  | w + 1 => by
    have h1 := ct_lett (tm := tm) (g := g) (N := N) w
    have h2 := ct_eq1 (tm w) N
    have h3 := ct_le_or (f := fun L => lett tm (w + 1) L && g L) (g := fun L => lett tm w L && g L) (h := fun L => decide (tm w = 12 + L)) (fun n hn => by
      have : lett tm (w + 1) n = (lett tm w n || decide (tm w = 12 + n)) := rfl
      simp only [this, Bool.and_eq_true, Bool.or_eq_true] at hn ⊢
      rcases hn.1 with z | z
      · exact Or.inl ⟨z, hn.2⟩
      · exact Or.inr z) N
    omega
section
variable {F : Nat} {P : AP} {s : Nat → Nat} {kind who width term start : Nat → Int32}
theorem PC_vars (ok : P.ok) (hc : PC P s kind who width term start) (hF : 3 < F) {r i : Nat} (hr : r < P.R) (hi : i ≤ P.K r) : ∃ m, M_Program_variables F width term (nI (s r + i)) = some m ∧ ∀ b, b < 32 → bt m b = P.le r i b := by
  obtain ⟨-, -, h240, e⟩ := hc r hr
  obtain ⟨-, -, ew, et⟩ := e i hi
  obtain ⟨-, -, w3, -, -, t38⟩ := (ok.2 r hr).2.2 i hi
  exact S_vars (show s r + i < 240 by omega) w3 ew (fun t ht => ⟨et t ht, t38 t ht⟩) hF
/-- how many letters of a part are not bound -/
theorem PC_unb (ok : P.ok) {r i : Nat} (hr : r < P.R) (hi : i ≤ P.K r) {m w2 : Int32} {Bd : Nat → Bool} (hm : ∀ b, b < 32 → bt m b = P.le r i b) (hB : ∀ b, b < 32 → bt w2 b = Bd b) : ∃ c, c ≤ 3 ∧ M_Integer_bitCount_0f7a4 (m &&& (w2 ^^^ (-1 : Int32))) = some (nI c) ∧ (c = 0 ↔ ∀ L, P.le r i L = true → Bd L = true) := by
  obtain ⟨-, -, w3, -, -, t38⟩ := (ok.2 r hr).2.2 i hi
  have e : ∀ b, b < 32 → bt (m &&& (w2 ^^^ (-1 : Int32))) b = (lett (P.tm r i) (P.wd r i) b && !Bd b) := fun b hb => by
    rw [b_and, bt_m1x _ hb, hm b hb, hB b hb]; rfl
  refine ⟨ct (bt (m &&& (w2 ^^^ (-1 : Int32)))) 32, ?_, S_bc32 _, fun z L hL => ?_, fun z => ?_⟩
  · rw [ct_congr e]
    have := ct_lett (tm := P.tm r i) (g := fun b => !Bd b) (N := 32) (P.wd r i)
    omega
  · obtain ⟨t, h1, h2⟩ := lett_iff.mp hL
    have h3 := t38 t h1
    have h4 := ct_0 z L (by omega)
    rw [e L (by omega)] at h4
    have hL : lett (P.tm r i) (P.wd r i) L = true := hL
    rw [hL] at h4
    simpa using h4
  · rw [ct_congr (g := fun _ => false) (fun b hb => ?_)]
    · exact ct_false 32
    · rw [e b hb]
      cases hl : lett (P.tm r i) (P.wd r i) b with
      | false => rfl
      | true => rw [z b hl]; rfl
/-- what chooseNext says -/
def AP.chs (P : AP) (s : Nat → Nat) (r : Nat) (U Bd : Nat → Bool) (z : Int32) : Prop := (z = -1 ∧ ∀ i, 1 ≤ i → i ≤ P.K r → U i = false → P.kd r i ≠ 1 ∧ ¬ ∀ L, P.le r i L = true → Bd L = true) ∨ ∃ i, 1 ≤ i ∧ i ≤ P.K r ∧ z = nI (s r + i) ∧ U i = false ∧ (P.kd r i ≠ 1 → ∀ L, P.le r i L = true → Bd L = true)
theorem S_choose_L (ok : P.ok) (hc : PC P s kind who width term start) (hF : 3 < F) {r : Nat} (hr : r < P.R) {U Bd : Nat → Bool} {w1 w2 : Int32} (hU : ∀ b, b < 32 → bt w1 b = U b) (hB : ∀ b, b < 32 → bt w2 b = Bd b) : ∀ (d j n : Nat) (f : Nat) (y3 : Int32), j + d = P.K r + 1 → 1 ≤ j → d < n → f ≤ 5 → ((y3 = -1 ∧ f = 5 ∧ ∀ i, 1 ≤ i → i < j → U i = false → P.kd r i ≠ 1) ∨ ∃ i, 1 ≤ i ∧ i ≤ P.K r ∧ y3 = nI (s r + i) ∧ U i = false ∧ P.kd r i = 1) → (∀ i, 1 ≤ i → i < j → U i = false → P.kd r i ≠ 1 → ¬ ∀ L, P.le r i L = true → Bd L = true) →
    ∃ z, (M_Search_chooseNext_L13 F (nI (s r)) (nI (s r + P.K r + 1)) kind width term w1 w2 n (nI (s r + j)) (nI f) y3 = some (.inl z) ∨ M_Search_chooseNext_L13 F (nI (s r)) (nI (s r + P.K r + 1)) kind width term w1 w2 n (nI (s r + j)) (nI f) y3 = some (.inr z)) ∧ P.chs s r U Bd z
  | 0, j, n, f, y3, hj, h1j, hn, hf, hb, ht => by
    obtain ⟨n, rfl⟩ : ∃ m, n = m + 1 := ⟨n - 1, by omega⟩
    obtain ⟨-, -, h240, e⟩ := hc r hr
    refine ⟨y3, Or.inl ?_, ?_⟩
    · unfold M_Search_chooseNext_L13
      rw [if_pos (nI_le (by omega) (by omega))]
    · rcases hb with ⟨b1, b2, b3⟩ | ⟨i, b1, b2, b3, b4, b5⟩
      · refine Or.inl ⟨b1, fun i i1 i2 i3 => ⟨b3 i i1 (by omega) i3, ht i i1 (by omega) i3 (b3 i i1 (by omega) i3)⟩⟩
      · exact Or.inr ⟨i, b1, b2, b3, b4, fun z => absurd b5 z⟩
  | d + 1, j, n, f, y3, hj, h1j, hn, hf, hb, ht => by
    obtain ⟨n, rfl⟩ : ∃ m, n = m + 1 := ⟨n - 1, by omega⟩
    have h5 := (ok.2 r hr).1
    obtain ⟨-, -, h240, e⟩ := hc r hr
    obtain ⟨ek, -, -, -⟩ := e j (by omega)
    obtain ⟨k5, k1, -, -, -, -⟩ := (ok.2 r hr).2.2 j (by omega)
    have k1 := k1 h1j
    have es : nI (s r + j) - nI (s r) = nI j := by
      rw [pk_sub (by omega)]
      exact congrArg nI (by omega)
    unfold M_Search_chooseNext_L13
    rw [if_neg (nI_ge (a := s r + j) (b := s r + P.K r + 1) (by omega) (by omega)), es, lt_e]
    cases hu : U j with
    | true =>
      have hu' : bt w1 j = true := (hU j (by omega)).trans hu
      rw [if_neg (fun z => by have := (bt_ask w1 (show j < 32 by omega)).mp z; rw [hu'] at this; exact absurd this (by decide)), lt_e, nI_1]
      refine S_choose_L ok hc hF hr hU hB d (j + 1) n f y3 (by omega) (by omega) (by omega) hf ?_ (fun i i1 i2 i3 => ?_)
      · rcases hb with ⟨b1, b2, b3⟩ | b
        · refine Or.inl ⟨b1, b2, fun i i1 i2 i3 => b3 i i1 ?_ i3⟩
          have : i ≠ j := fun z => by rw [z, hu] at i3; exact absurd i3 (by decide)
          omega
        · exact Or.inr b
      · refine ht i i1 ?_ i3
        have : i ≠ j := fun z => by rw [z, hu] at i3; exact absurd i3 (by decide)
        omega
    | false =>
      have hu' : bt w1 j = false := (hU j (by omega)).trans hu
      obtain ⟨m, em, hm⟩ := PC_vars ok hc hF hr (show j ≤ P.K r by omega)
      obtain ⟨c, c3, ec, hc0⟩ := PC_unb ok hr (show j ≤ P.K r by omega) hm hB
      rw [if_pos ((bt_ask w1 (show j < 32 by omega)).mpr hu'), bd_e _ em, bd_e _ ec, gd_n _ (show s r + j < 240 by omega) (by decide), nI_clamp (show s r + j < 2 ^ 31 by omega), ek]
      by_cases c1 : P.kd r j = 1
      · have hkeep : ∀ i, 1 ≤ i → i < j + 1 → U i = false → P.kd r i ≠ 1 → ¬ ∀ L, P.le r i L = true → Bd L = true := fun i i1 i2 i3 i4 => ht i i1 (by have : i ≠ j := fun z => i4 (z ▸ c1); omega) i3 i4
        rw [if_pos (show nI (P.kd r j) = (1 : Int32) by rw [c1]; rfl), if_pos rfl, if_pos rfl]
        by_cases c2 : f ≤ c
        · rw [if_pos (nI_le c2 (by omega)), lt_e, nI_1]
          refine S_choose_L ok hc hF hr hU hB d (j + 1) n f y3 (by omega) (by omega) (by omega) hf ?_ hkeep
          rcases hb with ⟨b1, b2, b3⟩ | b
          · omega
          · exact Or.inr b
        · rw [if_neg (nI_ge (a := c) (b := f) (by omega) (by omega)), lt_e, nI_1]
          exact S_choose_L ok hc hF hr hU hB d (j + 1) n c (nI (s r + j)) (by omega) (by omega) (by omega) (by omega) (Or.inr ⟨j, h1j, by omega, rfl, hu, c1⟩) hkeep
      · rw [if_neg (show ¬ nI (P.kd r j) = (1 : Int32) from fun z => c1 ((nI_eq (a := P.kd r j) (b := 1) (by omega) (by decide)).mp z)), if_neg (show ¬ (1 : Int32) = 0 by decide)]
        by_cases c2 : c = 0
        · rw [if_pos (show nI c = (0 : Int32) by rw [c2]; rfl)]
          exact ⟨nI (s r + j), Or.inr rfl, Or.inr ⟨j, h1j, by omega, rfl, hu, fun _ => hc0.mp c2⟩⟩
        · rw [if_neg (show ¬ nI c = (0 : Int32) from fun z => c2 ((nI_eq (a := c) (b := 0) (by omega) (by decide)).mp z)), if_neg (show ¬ (1 : Int32) = 0 by decide), lt_e, nI_1]
          refine S_choose_L ok hc hF hr hU hB d (j + 1) n f y3 (by omega) (by omega) (by omega) hf ?_ (fun i i1 i2 i3 i4 => ?_)
          · rcases hb with ⟨b1, b2, b3⟩ | b
            · refine Or.inl ⟨b1, b2, fun i i1 i2 i3 => ?_⟩
              by_cases z : i = j
              · subst z; exact c1
              · exact b3 i i1 (by omega) i3
            · exact Or.inr b
          · by_cases z : i = j
            · subst z; exact fun y => c2 (hc0.mpr y)
            · exact ht i i1 (by omega) i3 i4
theorem S_choose (ok : P.ok) (hc : PC P s kind who width term start) (hF : 6 < F) {r : Nat} (hr : r < P.R) {U Bd : Nat → Bool} {w1 w2 : Int32} (hU : ∀ b, b < 32 → bt w1 b = U b) (hB : ∀ b, b < 32 → bt w2 b = Bd b) : ∃ z, M_Search_chooseNext F (nI (s r)) (nI (s r + P.K r + 1)) kind width term w1 w2 = some z ∧ P.chs s r U Bd z := by
  have h5 := (ok.2 r hr).1
  obtain ⟨z, e, h⟩ := S_choose_L (F := F) ok hc (by omega) hr hU hB (P.K r) 1 F 5 (-1) (by omega) (Nat.le_refl 1) (by omega) (Nat.le_refl 5) (Or.inl ⟨rfl, rfl, fun i i1 i2 => absurd i1 (by omega)⟩) (fun i i1 i2 => absurd i1 (by omega))
  refine ⟨z, ?_, h⟩
  unfold M_Search_chooseNext
  rw [lt_e, nI_1]
  rcases e with e | e
  · exact bd_e (fun z18 => cs_ z18 (fun q19 => some q19) (fun o => some o)) e
  · exact bd_e (fun z18 => cs_ z18 (fun q19 => some q19) (fun o => some o)) e
/-- a plan of m parts, begun with the letters B0 bound -/
def AP.pln (P : AP) (s : Nat → Nat) (r : Nat) (B0 : Nat → Bool) (plan : Nat → Int32) (m : Nat) (pl : Nat → Nat) : Prop := (∀ j, j < m → plan j = nI (s r + pl j) ∧ 1 ≤ pl j ∧ pl j ≤ P.K r) ∧ ∀ j, j < m → P.kd r (pl j) ≠ 1 → ∀ L, P.le r (pl j) L = true → B0 L = true ∨ ∃ i, i < j ∧ P.le r (pl i) L = true
theorem used5 {U : Nat → Bool} (h0 : U 0 = false) (h : ct U 6 = 5) : ∀ i, 1 ≤ i → i ≤ 5 → U i = true := by
  have e : ct U 6 = 0 + (if U 0 then 1 else 0) + (if U 1 then 1 else 0) + (if U 2 then 1 else 0) + (if U 3 then 1 else 0) + (if U 4 then 1 else 0) + (if U 5 then 1 else 0) := rfl
  rw [h0, h] at e
  intro i h1 h2
  have : i = 1 ∨ i = 2 ∨ i = 3 ∨ i = 4 ∨ i = 5 := by omega
  cases u1 : U 1 <;> cases u2 : U 2 <;> cases u3 : U 3 <;> cases u4 : U 4 <;> cases u5 : U 5 <;> simp [u1, u2, u3, u4, u5] at e
  rcases this with z | z | z | z | z <;> rw [z] <;> assumption
theorem S_plan_L (ok : P.ok) (sf : P.safe) (hc : PC P s kind who width term start) (hF : 6 < F) {r : Nat} (hr : r < P.R) {B0 : Nat → Bool} : ∀ (d m n : Nat) (next used bound : Int32) (plan : Nat → Int32) (pl : Nat → Nat) (U Bd : Nat → Bool), m + d = 5 → d < n → P.pln s r B0 plan m pl → (∀ b, b < 32 → bt used b = U b) → (∀ b, b < 32 → bt bound b = Bd b) → (∀ i, U i = true ↔ ∃ j, j < m ∧ pl j = i) → (∀ L, Bd L = true ↔ (B0 L = true ∨ ∃ j, j < m ∧ P.le r (pl j) L = true)) → ct U 6 = m → P.chs s r U Bd next → ∃ plan' m' pl', M_Search_makePlan_L32 F (nI (s r)) (nI (s r + P.K r + 1)) kind width term n next used bound plan (nI m) = some (plan', nI m') ∧ m' ≤ 5 ∧ P.pln s r B0 plan' m' pl' ∧ ∀ i, 1 ≤ i → i ≤ P.K r → ∃ j, j < m' ∧ pl' j = i
  | d, m, n, next, used, bound, plan, pl, U, Bd, hm, hn, hp, hU, hB, hUm, hBm, hct, hch => by
    obtain ⟨n, rfl⟩ : ∃ m, n = m + 1 := ⟨n - 1, by omega⟩
    have h5 := (ok.2 r hr).1
    have h240 := (hc r hr).2.2.1
    unfold M_Search_makePlan_L32
    rcases hch with ⟨z, hall⟩ | ⟨i, i1, i2, z, iu, ib⟩
    · rw [if_pos z]
      refine ⟨plan, m, pl, rfl, by omega, hp, fun i i1 i2 => ?_⟩
      refine (hUm i).mp ?_
      cases hu : U i with
      | true => rfl
      | false =>
        obtain ⟨w1, w2⟩ := hall i i1 i2 hu
        refine absurd (fun L hL => ?_) w2
        obtain ⟨j, j1, j2, j3, j4⟩ := sf r hr i i2 w1 L hL
        cases hj : U j with
        | false => exact absurd j3 (hall j j1 j2 hj).1
        | true =>
          obtain ⟨k, k1, k2⟩ := (hUm j).mp hj
          exact (hBm L).mpr (Or.inr ⟨k, k1, by rw [k2]; exact j4⟩)
    · rw [if_neg (by rw [z]; exact nI_nm1 (by omega))]
      cases d with
      | zero =>
        have : m = 5 := by omega
        subst this
        rw [if_pos (show (5 : Int32) ≤ nI 5 by decide +kernel)]
        have u0 : U 0 = false := by
          cases hu : U 0 with
          | false => rfl
          | true =>
            obtain ⟨j, j1, j2⟩ := (hUm 0).mp hu
            have := (hp.1 j j1).2.1
            omega
        exact ⟨plan, 5, pl, rfl, Nat.le_refl 5, hp, fun i i1 i2 => (hUm i).mp (used5 u0 hct i i1 (by omega))⟩
      | succ d =>
        have e5 : ¬ (5 : Int32) ≤ nI m := nI_ge (a := m) (b := 5) (by omega) (by decide)
        have es : nI (s r + i) - nI (s r) = nI i := by
          rw [pk_sub (by omega)]
          exact congrArg nI (by omega)
        obtain ⟨mk, em, hmk⟩ := PC_vars (F := F) ok hc (by omega) hr i2
        have hU2 : ∀ b, b < 32 → bt (used ||| ((1 : Int32) <<< (nI i &&& 31))) b = (U b || decide (b = i)) := fun b hb => by
          rw [b_or, bt_one i (by omega) b hb, hU b hb]
        have hB2 : ∀ b, b < 32 → bt (bound ||| mk) b = (Bd b || P.le r i b) := fun b hb => by
          rw [b_or, hB b hb, hmk b hb]
        obtain ⟨nx, en, hnx⟩ := S_choose ok hc hF hr hU2 hB2
        rw [z, if_neg e5, gd_n _ (show m < 5 by omega) (by decide), lt_e, lt_e, lt_e, es, bd_e _ em, lt_e, bd_e _ en, nI_1, nI_clamp (show m < 2 ^ 31 by omega)]
        obtain ⟨pl2, q1, q2⟩ : ∃ pl2 : Nat → Nat, (∀ j, j < m → pl2 j = pl j) ∧ pl2 m = i := ⟨fun j => if j = m then i else pl j, fun j hj => if_neg (by omega), if_pos rfl⟩
        refine S_plan_L ok sf hc hF hr d (m + 1) n nx _ _ (upd plan m (nI (s r + i))) pl2 _ _ (by omega) (by omega) ⟨fun j hj => ?_, fun j hj hk L hL => ?_⟩ hU2 hB2 (fun x => ?_) (fun L => ?_) ?_ hnx
        · by_cases e : j = m
          · subst e
            rw [pk_us, q2]
            exact ⟨rfl, i1, i2⟩
          · rw [pk_un e, q1 j (by omega)]
            exact hp.1 j (by omega)
        · by_cases e : j = m
          · subst e
            rw [q2] at hk hL
            rcases (hBm L).mp (ib hk L hL) with w | ⟨k, k1, k2⟩
            · exact Or.inl w
            · exact Or.inr ⟨k, k1, by rw [q1 k k1]; exact k2⟩
          · rw [q1 j (by omega)] at hk hL
            rcases hp.2 j (by omega) hk L hL with w | ⟨k, k1, k2⟩
            · exact Or.inl w
            · exact Or.inr ⟨k, k1, by rw [q1 k (by omega)]; exact k2⟩
        · rw [Bool.or_eq_true, hUm x, decide_eq_true_iff]
          constructor
          · rintro (⟨j, j1, j2⟩ | w)
            · exact ⟨j, by omega, by rw [q1 j j1]; exact j2⟩
            · exact ⟨m, by omega, by rw [q2]; exact w.symm⟩
          · rintro ⟨j, j1, j2⟩
            by_cases e : j = m
            · subst e
              rw [q2] at j2
              exact Or.inr j2.symm
            · rw [q1 j (by omega)] at j2
              exact Or.inl ⟨j, by omega, j2⟩
        · rw [Bool.or_eq_true, hBm L]
          constructor
          · rintro ((w | ⟨j, j1, j2⟩) | w)
            · exact Or.inl w
            · exact Or.inr ⟨j, by omega, by rw [q1 j j1]; exact j2⟩
            · exact Or.inr ⟨m, by omega, by rw [q2]; exact w⟩
          · rintro (w | ⟨j, j1, j2⟩)
            · exact Or.inl (Or.inl w)
            · by_cases e : j = m
              · subst e
                rw [q2] at j2
                exact Or.inr j2
              · rw [q1 j (by omega)] at j2
                exact Or.inl (Or.inr ⟨j, by omega, j2⟩)
        · rw [ct_one (f := U) (g := fun b => U b || decide (b = i)) iu (by simp) (fun n hn => by simp [hn]) (show i < 6 by omega), hct]
/-- the plan: all parts, each test behind its letters; le: the part that looks at the latest facts, 0 without one -/
theorem S_makePlan (ok : P.ok) (sf : P.safe) (hc : PC P s kind who width term start) (hF : 6 < F) {r le : Nat} (hr : r < P.R) (hle : le ≤ P.K r) (hk1 : le ≠ 0 → P.kd r le = 1) {plan : Nat → Int32} {planned x0 : Int32} {B0 : Nat → Bool} (hB : ∀ b, b < 32 → bt x0 b = B0 b) (hB32 : ∀ L, B0 L = true → L < 32) : ∃ plan' m pl, M_Search_makePlan F plan planned (nI (s r)) (nI (s r + P.K r + 1)) (if le = 0 then -1 else nI (s r + le)) kind width term x0 = some (plan', nI m) ∧ m ≤ 5 ∧ P.pln s r B0 plan' m pl ∧ ∀ i, 1 ≤ i → i ≤ P.K r → ∃ j, j < m ∧ pl j = i := by
  have h5 := (ok.2 r hr).1
  have h240 := (hc r hr).2.2.1
  have hU : ∀ b, b < 32 → bt (0 : Int32) b = (fun _ => false : Nat → Bool) b := fun b _ => b_0 b
  have go : ∀ next, P.chs s r (fun _ => false) B0 next → ∃ plan' m pl, M_Search_makePlan_L32 F (nI (s r)) (nI (s r + P.K r + 1)) kind width term F next 0 x0 plan 0 = some (plan', nI m) ∧ m ≤ 5 ∧ P.pln s r B0 plan' m pl ∧ ∀ i, 1 ≤ i → i ≤ P.K r → ∃ j, j < m ∧ pl j = i := fun next hn => S_plan_L (F := F) ok sf hc hF hr 5 0 F next 0 x0 plan (fun _ => 0) (fun _ => false) B0 rfl (by omega) ⟨fun j hj => absurd hj (Nat.not_lt_zero _), fun j hj => absurd hj (Nat.not_lt_zero _)⟩ hU hB (fun i => ⟨fun z => absurd z (by decide), fun ⟨j, j1, _⟩ => absurd j1 (Nat.not_lt_zero _)⟩) (fun L => ⟨fun z => Or.inl z, fun z => z.elim id (fun ⟨j, j1, _⟩ => absurd j1 (Nat.not_lt_zero _))⟩) (ct_false 6) hn
  unfold M_Search_makePlan
  by_cases c : le = 0
  · obtain ⟨z, e, h⟩ := S_choose ok hc hF hr hU hB
    obtain ⟨plan', m, pl, e2, h2⟩ := go z h
    rw [if_pos c, if_pos rfl, bd_e _ e, bd_e _ e2]
    exact ⟨plan', m, pl, rfl, h2⟩
  · obtain ⟨plan', m, pl, e2, h2⟩ := go (nI (s r + le)) (Or.inr ⟨le, by omega, hle, rfl, rfl, fun z => absurd (hk1 c) z⟩)
    rw [if_neg c, if_neg (nI_nm1 (by omega)), bd_e _ e2]
    exact ⟨plan', m, pl, rfl, h2⟩
end
