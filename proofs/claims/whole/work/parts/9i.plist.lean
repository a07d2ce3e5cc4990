/-! which solutions the list holds -/
theorem nmv_s (v : Nat → Nat) (t : Nat) : nmv v (t + 1) = nmv v t * 12 + v t := rfl
theorem tn_ext {ν μ : Nat → Nat} (h : ∀ L, ν L ≠ 0 → μ L = ν L) {m : Nat} (hm : tn ν m ≠ 0) : tn μ m = tn ν m := by
  unfold tn at *
  by_cases c : m < 12
  · rw [if_pos c, if_pos c]
  · rw [if_neg c] at hm
    rw [if_neg c, if_neg c]
    exact h _ hm
theorem bnd_ext {ν : Nat → Nat} {m v : Nat} (h : tn ν m = 0 ∨ tn ν m = v + 1) : ∀ L, ν L ≠ 0 → bnd ν m v L = ν L := fun L hL => by
  show (if m = 12 + L then v + 1 else ν L) = ν L
  by_cases c : m = 12 + L
  · rw [if_pos c]
    subst c
    unfold tn at h
    rw [if_neg (by omega), show 12 + L - 12 = L by omega] at h
    rcases h with h | h
    · exact absurd h hL
    · exact h.symm
  · rw [if_neg c]
theorem bnd_le {ν : Nat → Nat} {m v : Nat} (hv : v < 12) (h : ∀ L, ν L ≤ 12) : ∀ L, bnd ν m v L ≤ 12 := fun L => by
  show (if m = 12 + L then v + 1 else ν L) ≤ 12
  split
  · omega
  · exact h L
theorem ttl_mem1 {src : Nat → Bool} {tm : Nat → Nat} {rest : (Nat → Nat) → List (Nat → Nat)} {μ : Nat → Nat} : ∀ (dd t pre : Nat) (ν : Nat → Nat), (∀ L, ν L ≤ 12) → pre = nmv (fun u => tn ν (tm u) - 1) t → (∀ u, u < t → tn ν (tm u) ≠ 0) → (∀ u, tn ν (tm u) ≤ 12) → μ ∈ ttl src tm rest (dd + 1) t pre ν → ∃ κ, μ ∈ rest κ ∧ (∀ L, κ L ≤ 12) ∧ (∀ L, ν L ≠ 0 → κ L = ν L) ∧ (∀ u, u < t + dd + 1 → tn κ (tm u) ≠ 0) ∧ src (nmv (fun u => tn κ (tm u) - 1) (t + dd + 1)) = true
  | dd, t, pre, ν, h12, hpre, hu, ht12, hm => by
    have one : ∀ v, v < 12 → (tn ν (tm t) = 0 ∨ tn ν (tm t) = v + 1) → (∀ u, u < t + 1 → tn (bnd ν (tm t) v) (tm u) ≠ 0) ∧ pre * 12 + v = nmv (fun u => tn (bnd ν (tm t) v) (tm u) - 1) (t + 1) ∧ (∀ u, tn (bnd ν (tm t) v) (tm u) ≤ 12) := fun v hv hc => by
      have ex := bnd_ext hc
      refine ⟨fun u h1 => ?_, ?_, fun u => ?_⟩
      · by_cases e : tm u = tm t
        · rw [e, tn_bnd hc]; omega
        · rw [tn_bnd2 e]
          refine hu u ?_
          have : u ≠ t := fun z => e (by rw [z])
          omega
      · rw [nmv_s, hpre, tn_bnd hc, show v + 1 - 1 = v by omega]
        refine congrArg (fun z => z * 12 + v) (nmv_congr (fun u h1 => ?_))
        rw [tn_ext ex (hu u h1)]
      · by_cases e : tm u = tm t
        · rw [e, tn_bnd hc]; omega
        · rw [tn_bnd2 e]; exact ht12 u
    have pick : ∃ v, v < 12 ∧ (tn ν (tm t) = 0 ∨ tn ν (tm t) = v + 1) ∧ (dd = 0 → src (pre * 12 + v) = true ∧ μ ∈ rest (bnd ν (tm t) v)) ∧ (∀ e, dd = e + 1 → μ ∈ ttl src tm rest (e + 1) (t + 1) (pre * 12 + v) (bnd ν (tm t) v)) := by
      cases dd with
      | zero =>
        have hm : μ ∈ (if tn ν (tm t) = 0 then vl (fun v => if src (pre * 12 + v) then rest (bnd ν (tm t) v) else []) 12 0 else vl (fun v => if src (pre * 12 + v) then rest (bnd ν (tm t) v) else []) 1 (tn ν (tm t) - 1)) := hm
        have get : ∀ v, μ ∈ (if src (pre * 12 + v) then rest (bnd ν (tm t) v) else []) → src (pre * 12 + v) = true ∧ μ ∈ rest (bnd ν (tm t) v) := fun v hv => by
          by_cases c : src (pre * 12 + v) = true
          · rw [if_pos c] at hv; exact ⟨c, hv⟩
          · rw [if_neg c] at hv; exact absurd hv List.not_mem_nil
        by_cases c : tn ν (tm t) = 0
        · rw [if_pos c] at hm
          obtain ⟨v, v1, v2, v3⟩ := vl_mem.mp hm
          exact ⟨v, by omega, Or.inl c, fun _ => get v v3, fun e z => by omega⟩
        · rw [if_neg c] at hm
          obtain ⟨v, v1, v2, v3⟩ := vl_mem.mp hm
          have := ht12 t
          exact ⟨v, by omega, Or.inr (by omega), fun _ => get v v3, fun e z => by omega⟩
      | succ dd =>
        have hm : μ ∈ (if tn ν (tm t) = 0 then vl (fun v => ttl src tm rest (dd + 1) (t + 1) (pre * 12 + v) (bnd ν (tm t) v)) 12 0 else vl (fun v => ttl src tm rest (dd + 1) (t + 1) (pre * 12 + v) (bnd ν (tm t) v)) 1 (tn ν (tm t) - 1)) := hm
        by_cases c : tn ν (tm t) = 0
        · rw [if_pos c] at hm
          obtain ⟨v, v1, v2, v3⟩ := vl_mem.mp hm
          exact ⟨v, by omega, Or.inl c, fun z => by omega, fun e z => (Nat.succ.inj z) ▸ v3⟩
        · rw [if_neg c] at hm
          obtain ⟨v, v1, v2, v3⟩ := vl_mem.mp hm
          have := ht12 t
          exact ⟨v, by omega, Or.inr (by omega), fun z => by omega, fun e z => (Nat.succ.inj z) ▸ v3⟩
    obtain ⟨v, hv, hc, p0, p1⟩ := pick
    obtain ⟨o1, o2, o3⟩ := one v hv hc
    cases dd with
    | zero =>
      obtain ⟨s1, s2⟩ := p0 rfl
      refine ⟨bnd ν (tm t) v, s2, bnd_le hv h12, bnd_ext hc, o1, ?_⟩
      show src (nmv (fun u => tn (bnd ν (tm t) v) (tm u) - 1) (t + 1)) = true
      rw [← o2]
      exact s1
    | succ dd =>
      obtain ⟨κ, k1, k2, k3, k4, k5⟩ := ttl_mem1 dd (t + 1) (pre * 12 + v) (bnd ν (tm t) v) (bnd_le hv h12) o2 o1 o3 (p1 dd rfl)
      have e9 : t + 1 + dd + 1 = t + (dd + 1) + 1 := by omega
      rw [e9] at k4 k5
      refine ⟨κ, k1, k2, fun L hL => ?_, k4, k5⟩
      have := bnd_ext hc L hL
      rw [k3 L (by rw [this]; exact hL), this]
theorem tv_lt {σ : Nat → Nat} (h : ∀ L, σ L < 12) (m : Nat) : tv σ m < 12 := by
  unfold tv
  split
  · assumption
  · exact h _
theorem tn_le {ν : Nat → Nat} (h : ∀ L, ν L ≤ 12) (m : Nat) : tn ν m ≤ 12 := by
  unfold tn
  split
  · omega
  · exact h _
theorem tn_σ (σ : Nat → Nat) (m : Nat) : tn (fun L => σ L + 1) m = tv σ m + 1 := by
  unfold tn tv
  by_cases c : m < 12
  · rw [if_pos c, if_pos c]
  · rw [if_neg c, if_neg c]
theorem tn_ag {ν σ : Nat → Nat} (h : ∀ L, ν L ≠ 0 → ν L = σ L + 1) {m : Nat} (hm : tn ν m ≠ 0) : tn ν m = tv σ m + 1 := by
  rw [← tn_σ]
  exact (tn_ext (ν := ν) (μ := fun L => σ L + 1) (fun L hL => (h L hL).symm) hm).symm
theorem bnd_ag {ν σ : Nat → Nat} (h : ∀ L, ν L ≠ 0 → ν L = σ L + 1) (m : Nat) : ∀ L, bnd ν m (tv σ m) L ≠ 0 → bnd ν m (tv σ m) L = σ L + 1 := fun L hL => by
  show (if m = 12 + L then tv σ m + 1 else ν L) = σ L + 1
  by_cases c : m = 12 + L
  · rw [if_pos c]
    unfold tv
    rw [if_neg (by omega), show m - 12 = L by omega]
  · rw [if_neg c]
    refine h L ?_
    have : bnd ν m (tv σ m) L = ν L := if_neg c
    rw [this] at hL
    exact hL
theorem ttl_mem2 {src : Nat → Bool} {tm : Nat → Nat} {rest : (Nat → Nat) → List (Nat → Nat)} {σ : Nat → Nat} (h12 : ∀ L, σ L < 12) : ∀ (dd t pre : Nat) (ν : Nat → Nat), (∀ L, ν L ≠ 0 → ν L = σ L + 1) → pre = nmv (fun u => tv σ (tm u)) t → src (nmv (fun u => tv σ (tm u)) (t + dd + 1)) = true → ∃ κ, (∀ L, κ L ≠ 0 → κ L = σ L + 1) ∧ (∀ L, ν L ≠ 0 → κ L ≠ 0) ∧ (∀ u, t ≤ u → u < t + dd + 1 → tn κ (tm u) ≠ 0) ∧ ∀ μ, μ ∈ rest κ → μ ∈ ttl src tm rest (dd + 1) t pre ν
  | dd, t, pre, ν, ha, hpre, hs => by
    have hv : tv σ (tm t) < 12 := tv_lt h12 _
    have hc : tn ν (tm t) = 0 ∨ tn ν (tm t) = tv σ (tm t) + 1 := by
      by_cases c : tn ν (tm t) = 0
      · exact Or.inl c
      · exact Or.inr (tn_ag ha c)
    have hp : pre * 12 + tv σ (tm t) = nmv (fun u => tv σ (tm u)) (t + 1) := by rw [nmv_s, hpre]
    have hag := bnd_ag ha (tm t)
    have hne : ∀ L, ν L ≠ 0 → bnd ν (tm t) (tv σ (tm t)) L ≠ 0 := fun L hL => bnd_ne (Or.inr hL)
    have htn : tn (bnd ν (tm t) (tv σ (tm t))) (tm t) ≠ 0 := by rw [tn_bnd hc]; omega
    cases dd with
    | zero =>
      refine ⟨bnd ν (tm t) (tv σ (tm t)), hag, hne, fun u h1 h2 => ?_, fun μ hμ => ?_⟩
      · have : u = t := by omega
        rw [this]; exact htn
      have hin : μ ∈ (if src (pre * 12 + tv σ (tm t)) then rest (bnd ν (tm t) (tv σ (tm t))) else []) := by
        rw [hp, if_pos hs]
        exact hμ
      show μ ∈ (if tn ν (tm t) = 0 then vl (fun v => if src (pre * 12 + v) then rest (bnd ν (tm t) v) else []) 12 0 else vl (fun v => if src (pre * 12 + v) then rest (bnd ν (tm t) v) else []) 1 (tn ν (tm t) - 1))
      by_cases c : tn ν (tm t) = 0
      · rw [if_pos c]
        exact vl_mem.mpr ⟨tv σ (tm t), Nat.zero_le _, by omega, hin⟩
      · rw [if_neg c]
        have := tn_ag ha c
        exact vl_mem.mpr ⟨tv σ (tm t), by omega, by omega, hin⟩
    | succ dd =>
      obtain ⟨κ, k1, k2, k3, k4⟩ := ttl_mem2 (src := src) (rest := rest) h12 dd (t + 1) (pre * 12 + tv σ (tm t)) _ hag hp (by rw [show t + 1 + dd + 1 = t + (dd + 1) + 1 by omega]; exact hs)
      refine ⟨κ, k1, fun L hL => k2 L (hne L hL), fun u h1 h2 => ?_, fun μ hμ => ?_⟩
      · by_cases e : u = t
        · subst e
          have : tn κ (tm u) = tn (fun L => σ L + 1) (tm u) := by
            unfold tn
            by_cases c : tm u < 12
            · rw [if_pos c, if_pos c]
            · rw [if_neg c, if_neg c]
              refine k1 _ (k2 _ (bnd_ne (Or.inl (by omega))))
          rw [this, tn_σ]; omega
        · exact k3 u (by omega) (by omega)
      have hin := k4 μ hμ
      show μ ∈ (if tn ν (tm t) = 0 then vl (fun v => ttl src tm rest (dd + 1) (t + 1) (pre * 12 + v) (bnd ν (tm t) v)) 12 0 else vl (fun v => ttl src tm rest (dd + 1) (t + 1) (pre * 12 + v) (bnd ν (tm t) v)) 1 (tn ν (tm t) - 1))
      by_cases c : tn ν (tm t) = 0
      · rw [if_pos c]
        exact vl_mem.mpr ⟨tv σ (tm t), Nat.zero_le _, by omega, hin⟩
      · rw [if_neg c]
        have := tn_ag ha c
        exact vl_mem.mpr ⟨tv σ (tm t), by omega, by omega, hin⟩
section
variable {P : AP} {r le : Nat} {fa la : Nat → Int32}
theorem AP.sob_congr {i : Nat} {κ μ : Nat → Nat} (hw : 3 ≤ P.kd r i → P.wd r i = 2) (h : ∀ t, t < P.wd r i → tn μ (P.tm r i t) = tn κ (P.tm r i t)) (k1 : 1 ≤ P.kd r i) : P.sob r le fa la i μ = P.sob r le fa la i κ := by
  have e : P.nn r i μ = P.nn r i κ := nmv_congr (fun t ht => by rw [h t ht])
  unfold AP.sob
  by_cases c1 : P.kd r i = 1
  · rw [if_pos c1, if_pos c1, e]
  · rw [if_neg c1, if_neg c1]
    unfold pt
    have e : nmv (fun t => tn μ (P.tm r i t) - 1) (P.wd r i) = nmv (fun t => tn κ (P.tm r i t) - 1) (P.wd r i) := e
    by_cases c2 : P.kd r i = 2
    · rw [if_neg c1, if_neg c1, if_pos c2, if_pos c2, e]
    · rw [if_neg c1, if_neg c1, if_neg c2, if_neg c2]
      show cmpv (P.kd r i - 3) (tn μ (P.tm r i 0) - 1) (tn μ (P.tm r i 1) - 1) = cmpv (P.kd r i - 3) (tn κ (P.tm r i 0) - 1) (tn κ (P.tm r i 1) - 1)
      rw [h 0 (by rw [hw (by omega)]; decide), h 1 (by rw [hw (by omega)]; decide)]
theorem AP.le_tn {i L : Nat} {κ : Nat → Nat} (h : ∀ u, u < P.wd r i → tn κ (P.tm r i u) ≠ 0) (hL : P.le r i L = true) : κ L ≠ 0 := by
  obtain ⟨u, u1, u2⟩ := lett_iff.mp hL
  have := h u u1
  unfold tn at this
  rw [u2, if_neg (by omega), show 12 + L - 12 = L by omega] at this
  exact this
theorem AP.tn_le_ne {i : Nat} {κ : Nat → Nat} (h : ∀ L, P.le r i L = true → κ L ≠ 0) {u : Nat} (hu : u < P.wd r i) : tn κ (P.tm r i u) ≠ 0 := by
  unfold tn
  by_cases c : P.tm r i u < 12
  · rw [if_pos c]; omega
  · rw [if_neg c]
    exact h _ (lett_iff.mpr ⟨u, hu, by omega⟩)
variable {s : Nat → Nat} {plan : Nat → Int32}
theorem sll_mem1 (ok : P.ok) (hr : r < P.R) {m : Nat} {pl : Nat → Nat} {B0 : Nat → Bool} (hp : P.pln s r B0 plan m pl) {μ : Nat → Nat} : ∀ (k j : Nat) (ν : Nat → Nat), j + k = m → (∀ L, ν L ≤ 12) → (∀ L, (B0 L = true ∨ ∃ i, i < j ∧ P.le r (pl i) L = true) → ν L ≠ 0) → μ ∈ P.sll r le fa la pl k j ν → (∀ L, μ L ≤ 12) ∧ (∀ L, ν L ≠ 0 → μ L = ν L) ∧ ∀ q, j ≤ q → q < m → P.sob r le fa la (pl q) μ = true ∧ ∀ L, P.le r (pl q) L = true → μ L ≠ 0
  | 0, j, ν, hj, h12, hb, hm => by
    have : μ = ν := List.mem_singleton.mp hm
    subst this
    exact ⟨h12, fun _ _ => rfl, fun q h1 h2 => absurd h1 (by omega)⟩
  | k + 1, j, ν, hj, h12, hb, hm => by
    obtain ⟨-, i1, i2⟩ := hp.1 j (by omega)
    obtain ⟨k5, k1, w3, w2, p10, t38⟩ := (ok.2 r hr).2.2 (pl j) i2
    have k1 := k1 i1
    have go : ∀ κ, μ ∈ P.sll r le fa la pl k (j + 1) κ → (∀ L, κ L ≤ 12) → (∀ L, ν L ≠ 0 → κ L = ν L) → (∀ L, P.le r (pl j) L = true → κ L ≠ 0) → P.sob r le fa la (pl j) κ = true → (∀ L, μ L ≤ 12) ∧ (∀ L, ν L ≠ 0 → μ L = ν L) ∧ ∀ q, j ≤ q → q < m → P.sob r le fa la (pl q) μ = true ∧ ∀ L, P.le r (pl q) L = true → μ L ≠ 0 := fun κ a1 a2 a3 a4 a5 => by
      obtain ⟨b1, b2, b3⟩ := sll_mem1 ok hr hp k (j + 1) κ (by omega) a2 (fun L hL => by
        rcases hL with hL | ⟨i, hi, hL⟩
        · have := hb L (Or.inl hL)
          rw [a3 L this]; exact this
        · by_cases e : i = j
          · subst e; exact a4 L hL
          · have := hb L (Or.inr ⟨i, by omega, hL⟩)
            rw [a3 L this]; exact this) a1
      refine ⟨b1, fun L hL => ?_, fun q h1 h2 => ?_⟩
      · rw [b2 L (by rw [a3 L hL]; exact hL), a3 L hL]
      · by_cases e : q = j
        · subst e
          refine ⟨?_, fun L hL => ?_⟩
          · rw [AP.sob_congr w2 (fun t ht => tn_ext b2 (AP.tn_le_ne a4 ht)) k1]
            exact a5
          · rw [b2 L (a4 L hL)]; exact a4 L hL
        · exact b3 q (by omega) h2
    have hm : μ ∈ (if P.kd r (pl j) = 1 ∧ 0 < P.wd r (pl j) then ttl (P.src r le fa la (pl j)) (P.tm r (pl j)) (P.sll r le fa la pl k (j + 1)) (P.wd r (pl j)) 0 0 ν else if P.sob r le fa la (pl j) ν then P.sll r le fa la pl k (j + 1) ν else []) := hm
    by_cases c : P.kd r (pl j) = 1 ∧ 0 < P.wd r (pl j)
    · rw [if_pos c] at hm
      obtain ⟨dd, hdd⟩ : ∃ dd, P.wd r (pl j) = dd + 1 := ⟨P.wd r (pl j) - 1, by omega⟩
      rw [hdd] at hm
      obtain ⟨κ, a1, a2, a3, a4, a5⟩ := ttl_mem1 dd 0 0 ν h12 rfl (fun u hu => absurd hu (Nat.not_lt_zero _)) (fun u => tn_le h12 _) hm
      refine go κ a1 a2 a3 (fun L hL => AP.le_tn (fun u hu => a4 u (by omega)) hL) ?_
      unfold AP.sob AP.nn
      rw [if_pos c.1, hdd, show dd + 1 = 0 + dd + 1 by omega]
      exact a5
    · rw [if_neg c] at hm
      by_cases c2 : P.sob r le fa la (pl j) ν = true
      · rw [if_pos c2] at hm
        refine go ν hm h12 (fun _ _ => rfl) (fun L hL => ?_) c2
        by_cases c3 : P.kd r (pl j) = 1
        · obtain ⟨u, u1, _⟩ := lett_iff.mp hL
          exact absurd ⟨c3, by omega⟩ c
        · exact hb L (hp.2 j (by omega) c3 L hL)
      · rw [if_neg c2] at hm
        exact absurd hm List.not_mem_nil
theorem sll_mem2 (ok : P.ok) (hr : r < P.R) {m : Nat} {pl : Nat → Nat} {B0 : Nat → Bool} (hp : P.pln s r B0 plan m pl) {σ : Nat → Nat} (h12 : ∀ L, σ L < 12) (hs : ∀ q, q < m → P.sob r le fa la (pl q) (fun L => σ L + 1) = true) : ∀ (k j : Nat) (ν : Nat → Nat), j + k = m → (∀ L, ν L ≠ 0 → ν L = σ L + 1) → (∀ L, (B0 L = true ∨ ∃ i, i < j ∧ P.le r (pl i) L = true) → ν L ≠ 0) → ∃ μ, μ ∈ P.sll r le fa la pl k j ν ∧ (∀ L, μ L ≠ 0 → μ L = σ L + 1) ∧ ∀ L, (B0 L = true ∨ ∃ i, i < m ∧ P.le r (pl i) L = true) → μ L ≠ 0
  | 0, j, ν, hj, ha, hb => ⟨ν, List.mem_singleton.mpr rfl, ha, fun L hL => hb L (by rw [show j = m by omega]; exact hL)⟩
  | k + 1, j, ν, hj, ha, hb => by
    obtain ⟨-, i1, i2⟩ := hp.1 j (by omega)
    obtain ⟨k5, k1, w3, w2, p10, t38⟩ := (ok.2 r hr).2.2 (pl j) i2
    have k1 := k1 i1
    have hsj := hs j (by omega)
    show ∃ μ, μ ∈ (if P.kd r (pl j) = 1 ∧ 0 < P.wd r (pl j) then ttl (P.src r le fa la (pl j)) (P.tm r (pl j)) (P.sll r le fa la pl k (j + 1)) (P.wd r (pl j)) 0 0 ν else if P.sob r le fa la (pl j) ν then P.sll r le fa la pl k (j + 1) ν else []) ∧ _
    by_cases c : P.kd r (pl j) = 1 ∧ 0 < P.wd r (pl j)
    · rw [if_pos c]
      obtain ⟨dd, hdd⟩ : ∃ dd, P.wd r (pl j) = dd + 1 := ⟨P.wd r (pl j) - 1, by omega⟩
      have hsrc : P.src r le fa la (pl j) (nmv (fun u => tv σ (P.tm r (pl j) u)) (0 + dd + 1)) = true := by
        unfold AP.sob at hsj
        rw [if_pos c.1] at hsj
        unfold AP.nn at hsj
        rw [hdd, nmv_congr (v := fun u => tv σ (P.tm r (pl j) u)) (fun u hu => by rw [tn_σ]; rfl)] at hsj
        rw [show 0 + dd + 1 = dd + 1 by omega]
        exact hsj
      obtain ⟨κ, a1, a2, a3, a4⟩ := ttl_mem2 (src := P.src r le fa la (pl j)) (tm := P.tm r (pl j)) (rest := P.sll r le fa la pl k (j + 1)) h12 dd 0 0 ν ha rfl hsrc
      obtain ⟨μ, b1, b2, b3⟩ := sll_mem2 ok hr hp h12 hs k (j + 1) κ (by omega) a1 (fun L hL => by
        rcases hL with hL | ⟨i, hi, hL⟩
        · exact a2 L (hb L (Or.inl hL))
        · by_cases e : i = j
          · subst e; exact AP.le_tn (fun u hu => a3 u (Nat.zero_le _) (by omega)) hL
          · exact a2 L (hb L (Or.inr ⟨i, by omega, hL⟩)))
      rw [hdd]
      exact ⟨μ, a4 μ b1, b2, b3⟩
    · rw [if_neg c]
      have hbl : ∀ L, P.le r (pl j) L = true → ν L ≠ 0 := fun L hL => by
        by_cases c3 : P.kd r (pl j) = 1
        · obtain ⟨u, u1, _⟩ := lett_iff.mp hL
          exact absurd ⟨c3, by omega⟩ c
        · exact hb L (hp.2 j (by omega) c3 L hL)
      have e : P.sob r le fa la (pl j) ν = true := by
        rw [← hsj]
        exact (AP.sob_congr w2 (fun t ht => tn_ext (fun L hL => (ha L hL).symm) (AP.tn_le_ne hbl ht)) k1).symm
      rw [if_pos e]
      exact sll_mem2 ok hr hp h12 hs k (j + 1) ν (by omega) ha (fun L hL => by
        rcases hL with hL | ⟨i, hi, hL⟩
        · exact hb L (Or.inl hL)
        · by_cases e : i = j
          · subst e; exact hbl L hL
          · exact hb L (Or.inr ⟨i, by omega, hL⟩))
end
