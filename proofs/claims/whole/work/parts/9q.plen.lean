/-! how many solutions the class' search finds -/
theorem ttl_one {tm : Nat → Nat} {t pre : Nat} {ν : Nat → Nat} (hpre : pre = nmv (fun u => tn ν (tm u) - 1) t) (hu : ∀ u, u < t → tn ν (tm u) ≠ 0) {v : Nat} (hc : tn ν (tm t) = 0 ∨ tn ν (tm t) = v + 1) : (∀ u, u < t + 1 → tn (bnd ν (tm t) v) (tm u) ≠ 0) ∧ pre * 12 + v = nmv (fun u => tn (bnd ν (tm t) v) (tm u) - 1) (t + 1) := by
  have ex := bnd_ext hc
  refine ⟨fun u h1 => ?_, ?_⟩
  · by_cases e : tm u = tm t
    · rw [e, tn_bnd hc]; omega
    · rw [tn_bnd2 e]
      refine hu u ?_
      have : u ≠ t := fun z => e (by rw [z])
      omega
  · rw [nmv_s, hpre, tn_bnd hc, show v + 1 - 1 = v by omega]
    refine congrArg (fun z => z * 12 + v) (nmv_congr (fun u h1 => ?_))
    rw [tn_ext ex (hu u h1)]
theorem if_len {α : Type} {p : Bool} {l : List α} : (if p then l else []).length = if p = true then l.length else 0 := by cases p <;> rfl
theorem ttl_len {src : Nat → Bool} {tm : Nat → Nat} {rest : (Nat → Nat) → List (Nat → Nat)} : ∀ (dd t pre : Nat) (ν : Nat → Nat) (b : Nat → Bool), (∀ L, b L = true ↔ ν L ≠ 0) → pre = nmv (fun u => tn ν (tm u) - 1) t → (∀ u, u < t → tn ν (tm u) ≠ 0) → (ttl src tm rest (dd + 1) t pre ν).length = cS (ul tm (dd + 1) t b) ν (fun κ => if src (nmv (fun u => tn κ (tm u) - 1) (t + dd + 1)) = true then (rest κ).length else 0)
  | 0, t, pre, ν, b, hb, hpre, hu => by
    show (if tn ν (tm t) = 0 then vl (fun v => if src (pre * 12 + v) then rest (bnd ν (tm t) v) else []) 12 0 else vl (fun v => if src (pre * 12 + v) then rest (bnd ν (tm t) v) else []) 1 (tn ν (tm t) - 1)).length = cS (if tm t < 12 ∨ b (tm t - 12) = true then [] else [tm t - 12]) ν _
    by_cases c : tn ν (tm t) = 0
    · have c1 : ¬ tm t < 12 := fun z => by unfold tn at c; rw [if_pos z] at c; omega
      have c2 : ν (tm t - 12) = 0 := by unfold tn at c; rw [if_neg c1] at c; exact c
      have c3 : ¬ (tm t < 12 ∨ b (tm t - 12) = true) := fun z => z.elim c1 (fun y => (hb _).mp y c2)
      rw [if_pos c, if_neg c3, vl_len]
      refine sx_congr (fun v _ _ => ?_)
      show (if src (pre * 12 + v) then rest (bnd ν (tm t) v) else []).length = _
      rw [if_len, (ttl_one hpre hu (v := v) (Or.inl c)).2, bnd_se c1]
      rfl
    · have c3 : tm t < 12 ∨ b (tm t - 12) = true := by
        by_cases c1 : tm t < 12
        · exact Or.inl c1
        · unfold tn at c
          rw [if_neg c1] at c
          exact Or.inr ((hb _).mpr c)
      rw [if_neg c, if_pos c3, vl_len]
      show (if src (pre * 12 + (tn ν (tm t) - 1)) then rest (bnd ν (tm t) (tn ν (tm t) - 1)) else []).length + 0 = _
      rw [if_len, (ttl_one hpre hu (v := tn ν (tm t) - 1) (Or.inr (by omega))).2, bnd_same c]
      rfl
  | dd + 1, t, pre, ν, b, hb, hpre, hu => by
    have e9 : t + 1 + dd + 1 = t + (dd + 1) + 1 := by omega
    show (if tn ν (tm t) = 0 then vl (fun v => ttl src tm rest (dd + 1) (t + 1) (pre * 12 + v) (bnd ν (tm t) v)) 12 0 else vl (fun v => ttl src tm rest (dd + 1) (t + 1) (pre * 12 + v) (bnd ν (tm t) v)) 1 (tn ν (tm t) - 1)).length = cS (if tm t < 12 ∨ b (tm t - 12) = true then ul tm (dd + 1) (t + 1) b else (tm t - 12) :: ul tm (dd + 1) (t + 1) (fun L => b L || decide (L = tm t - 12))) ν _
    by_cases c : tn ν (tm t) = 0
    · have c1 : ¬ tm t < 12 := fun z => by unfold tn at c; rw [if_pos z] at c; omega
      have c2 : ν (tm t - 12) = 0 := by unfold tn at c; rw [if_neg c1] at c; exact c
      have c3 : ¬ (tm t < 12 ∨ b (tm t - 12) = true) := fun z => z.elim c1 (fun y => (hb _).mp y c2)
      rw [if_pos c, if_neg c3, vl_len]
      refine sx_congr (fun v _ _ => ?_)
      obtain ⟨o1, o2⟩ := ttl_one hpre hu (v := v) (Or.inl c)
      have := ttl_len (src := src) (rest := rest) dd (t + 1) (pre * 12 + v) (bnd ν (tm t) v) (fun L => b L || decide (L = tm t - 12)) (fun L => by
        rw [bnd_se c1]
        show _ ↔ (if L = tm t - 12 then v + 1 else ν L) ≠ 0
        by_cases e : L = tm t - 12
        · rw [if_pos e]; simp [e]
        · rw [if_neg e, ← hb L]; simp [e]) o2 o1
      rw [e9] at this
      rw [this, bnd_se c1]
    · have c3 : tm t < 12 ∨ b (tm t - 12) = true := by
        by_cases c1 : tm t < 12
        · exact Or.inl c1
        · unfold tn at c
          rw [if_neg c1] at c
          exact Or.inr ((hb _).mpr c)
      rw [if_neg c, if_pos c3, vl_len]
      obtain ⟨o1, o2⟩ := ttl_one hpre hu (v := tn ν (tm t) - 1) (Or.inr (by omega))
      show (ttl src tm rest (dd + 1) (t + 1) (pre * 12 + (tn ν (tm t) - 1)) (bnd ν (tm t) (tn ν (tm t) - 1))).length + 0 = _
      rw [bnd_same c] at o1 o2 ⊢
      have := ttl_len (src := src) (rest := rest) dd (t + 1) (pre * 12 + (tn ν (tm t) - 1)) ν b hb o2 o1
      rw [e9] at this
      rw [this, Nat.add_zero]
def AP.uls (P : AP) (r : Nat) (pl : Nat → Nat) : Nat → Nat → (Nat → Bool) → List Nat
  | 0, _, _ => []
  | k + 1, j, b => ul (P.tm r (pl j)) (P.wd r (pl j)) 0 b ++ P.uls r pl k (j + 1) (fun L => b L || P.le r (pl j) L)
section
variable {P : AP} {r le : Nat} {fa la : Nat → Int32} {s : Nat → Nat} {plan : Nat → Int32}
theorem uls_mem {pl : Nat → Nat} {L : Nat} : ∀ {k j : Nat} {b : Nat → Bool}, L ∈ P.uls r pl k j b ↔ b L = false ∧ ∃ q, j ≤ q ∧ q < j + k ∧ P.le r (pl q) L = true
  | 0, j, b => ⟨fun h => absurd h List.not_mem_nil, fun ⟨_, u, h1, h2, _⟩ => by omega⟩
  | k + 1, j, b => by
    show L ∈ ul (P.tm r (pl j)) (P.wd r (pl j)) 0 b ++ P.uls r pl k (j + 1) (fun L => b L || P.le r (pl j) L) ↔ _
    have hle : P.le r (pl j) L = true ↔ ∃ u, 0 ≤ u ∧ u < 0 + P.wd r (pl j) ∧ P.tm r (pl j) u = 12 + L := by
      refine lett_iff.trans ⟨fun ⟨u, h1, h2⟩ => ⟨u, Nat.zero_le _, by omega, h2⟩, fun ⟨u, _, h1, h2⟩ => ⟨u, by omega, h2⟩⟩
    rw [List.mem_append, ul_mem, uls_mem, ← hle]
    constructor
    · rintro (⟨h1, h2⟩ | ⟨h1, q, h2, h3, h4⟩)
      · exact ⟨h1, j, Nat.le_refl j, by omega, h2⟩
      · simp at h1
        exact ⟨h1.1, q, by omega, by omega, h4⟩
    · rintro ⟨h1, q, h2, h3, h4⟩
      cases hl : P.le r (pl j) L with
      | true => exact Or.inl ⟨h1, rfl⟩
      | false =>
        have : q ≠ j := fun z => by rw [z, hl] at h4; exact absurd h4 (by decide)
        exact Or.inr ⟨by simp [h1, hl], q, by omega, by omega, h4⟩
theorem uls_nodup {pl : Nat → Nat} : ∀ {k j : Nat} {b : Nat → Bool}, (P.uls r pl k j b).Nodup
  | 0, j, b => List.nodup_nil
  | k + 1, j, b => List.nodup_append.mpr ⟨ul_nodup, uls_nodup, fun x hx y hy e => by
      subst e
      have h1 := (uls_mem.mp hy).1
      simp at h1
      obtain ⟨-, u, -, h3, h4⟩ := ul_mem.mp hx
      have : P.le r (pl j) x = true := lett_iff.mpr ⟨u, by omega, h4⟩
      rw [h1.2] at this
      exact absurd this (by decide)⟩
theorem sll_len (ok : P.ok) (hr : r < P.R) {m : Nat} {pl : Nat → Nat} {B0 : Nat → Bool} (hp : P.pln s r B0 plan m pl) : ∀ (k j : Nat) (ν : Nat → Nat) (b : Nat → Bool), j + k = m → (∀ L, b L = true ↔ ν L ≠ 0) → (∀ L, (B0 L = true ∨ ∃ i, i < j ∧ P.le r (pl i) L = true) → ν L ≠ 0) → (P.sll r le fa la pl k j ν).length = cS (P.uls r pl k j b) ν (fun κ => ind (∀ q, j ≤ q → q < m → P.sob r le fa la (pl q) κ = true))
  | 0, j, ν, b, hj, hb, hB => (ind_t (fun q h1 h2 => absurd h1 (by omega))).symm
  | k + 1, j, ν, b, hj, hb, hB => by
    obtain ⟨-, i1, i2⟩ := hp.1 j (by omega)
    obtain ⟨k5, k1, w3, w2, p10, t38⟩ := (ok.2 r hr).2.2 (pl j) i2
    have k1 := k1 i1
    have hle : ∀ L, P.le r (pl j) L = true ↔ ∃ u, 0 ≤ u ∧ u < 0 + P.wd r (pl j) ∧ P.tm r (pl j) u = 12 + L := fun L => lett_iff.trans ⟨fun ⟨u, h1, h2⟩ => ⟨u, Nat.zero_le _, by omega, h2⟩, fun ⟨u, _, h1, h2⟩ => ⟨u, by omega, h2⟩⟩
    -- behind part j, with its letters bound
    have next : ∀ κ, Ext (ul (P.tm r (pl j)) (P.wd r (pl j)) 0 b) ν κ → (∀ L, P.le r (pl j) L = true → κ L ≠ 0) ∧ (if P.sob r le fa la (pl j) κ = true then (P.sll r le fa la pl k (j + 1) κ).length else 0) = cS (P.uls r pl k (j + 1) (fun L => b L || P.le r (pl j) L)) κ (fun μ => ind (∀ q, j ≤ q → q < m → P.sob r le fa la (pl q) μ = true)) := fun κ hκ => by
      have hν : ∀ L, ν L ≠ 0 → κ L = ν L := fun L hL => hκ.1 L (fun z => by
        have := (ul_mem.mp z).1
        rw [(hb L).mpr hL] at this
        exact absurd this (by decide))
      have hl : ∀ L, P.le r (pl j) L = true → κ L ≠ 0 := fun L hL => by
        by_cases c : ν L = 0
        · have : b L = false := by
            cases h : b L with
            | false => rfl
            | true => exact absurd c ((hb L).mp h)
          exact (hκ.2 L (ul_mem.mpr ⟨this, (hle L).mp hL⟩)).1
        · rw [hν L c]; exact c
      refine ⟨hl, ?_⟩
      have ih := sll_len ok hr hp k (j + 1) κ (fun L => b L || P.le r (pl j) L) (by omega) (fun L => by
        rw [Bool.or_eq_true]
        constructor
        · rintro (h | h)
          · rw [hν L ((hb L).mp h)]; exact (hb L).mp h
          · exact hl L h
        · intro h
          by_cases c : L ∈ ul (P.tm r (pl j)) (P.wd r (pl j)) 0 b
          · exact Or.inr ((hle L).mpr (ul_mem.mp c).2)
          · rw [hκ.1 L c] at h
            exact Or.inl ((hb L).mpr h)) (fun L hL => by
        rcases hL with hL | ⟨i, hi, hL⟩
        · have := hB L (Or.inl hL)
          rw [hν L this]; exact this
        · by_cases e : i = j
          · subst e; exact hl L hL
          · have := hB L (Or.inr ⟨i, by omega, hL⟩)
            rw [hν L this]; exact this)
      have same : ∀ μ, Ext (P.uls r pl k (j + 1) (fun L => b L || P.le r (pl j) L)) κ μ → P.sob r le fa la (pl j) μ = P.sob r le fa la (pl j) κ := fun μ hμ => AP.sob_congr w2 (fun t ht => by
        refine tn_ext (fun L hL => hμ.1 L (fun z => ?_)) (AP.tn_le_ne hl ht)
        have := (uls_mem.mp z).1
        simp at this
        have h2 : ¬ L ∈ ul (P.tm r (pl j)) (P.wd r (pl j)) 0 b := fun y => by
          have h3 := (hle L).mpr (ul_mem.mp y).2
          rw [this.2] at h3
          exact absurd h3 (by decide)
        rw [hκ.1 L h2] at hL
        rw [(hb L).mpr hL] at this
        exact absurd this.1 (by decide)) k1
      by_cases c : P.sob r le fa la (pl j) κ = true
      · rw [if_pos c, ih]
        refine cS_congr (fun μ hμ => ind_congr ⟨fun h q h1 h2 => ?_, fun h q h1 h2 => h q (by omega) h2⟩)
        by_cases e : q = j
        · subst e; rw [same μ hμ]; exact c
        · exact h q (by omega) h2
      · rw [if_neg c]
        exact (cS_zero (fun μ hμ => ind_f (fun h => c (by rw [← same μ hμ]; exact h j (Nat.le_refl j) (by omega))))).symm
    show (if P.kd r (pl j) = 1 ∧ 0 < P.wd r (pl j) then ttl (P.src r le fa la (pl j)) (P.tm r (pl j)) (P.sll r le fa la pl k (j + 1)) (P.wd r (pl j)) 0 0 ν else if P.sob r le fa la (pl j) ν then P.sll r le fa la pl k (j + 1) ν else []).length = cS (ul (P.tm r (pl j)) (P.wd r (pl j)) 0 b ++ P.uls r pl k (j + 1) (fun L => b L || P.le r (pl j) L)) ν _
    rw [cS_append]
    by_cases c : P.kd r (pl j) = 1 ∧ 0 < P.wd r (pl j)
    · rw [if_pos c]
      obtain ⟨dd, hdd⟩ : ∃ dd, P.wd r (pl j) = dd + 1 := ⟨P.wd r (pl j) - 1, by omega⟩
      have := ttl_len (src := P.src r le fa la (pl j)) (tm := P.tm r (pl j)) (rest := P.sll r le fa la pl k (j + 1)) dd 0 0 ν b hb rfl (fun u hu => absurd hu (Nat.not_lt_zero _))
      rw [← hdd] at this
      rw [this]
      refine cS_congr (fun κ hκ => ?_)
      rw [← (next κ hκ).2]
      have e : P.sob r le fa la (pl j) κ = P.src r le fa la (pl j) (nmv (fun u => tn κ (P.tm r (pl j) u) - 1) (0 + dd + 1)) := by
        unfold AP.sob AP.nn
        rw [if_pos c.1, hdd, show dd + 1 = 0 + dd + 1 by omega]
      rw [e]
    · have hnil : ul (P.tm r (pl j)) (P.wd r (pl j)) 0 b = [] := by
        refine List.eq_nil_iff_forall_not_mem.mpr (fun L hL => ?_)
        obtain ⟨h1, h2⟩ := ul_mem.mp hL
        have hL2 := (hle L).mpr h2
        have : ν L ≠ 0 := by
          by_cases c3 : P.kd r (pl j) = 1
          · obtain ⟨u, _, u1, _⟩ := h2
            exact absurd ⟨c3, by omega⟩ c
          · exact hB L (hp.2 j (by omega) c3 L hL2)
        rw [(hb L).mpr this] at h1
        exact absurd h1 (by decide)
      have nx := (next ν ⟨fun _ _ => rfl, fun L z => by rw [hnil] at z; exact absurd z List.not_mem_nil⟩).2
      rw [if_neg c, hnil]
      show _ = cS (P.uls r pl k (j + 1) (fun L => b L || P.le r (pl j) L)) ν _
      rw [← nx]
      exact if_len
theorem fold1 : ∀ (l : List (Nat → Nat)) (n : Nat) (fr frc : Nat → Int32), List.foldl (P.op r 1 fa) (nI n, fr, frc) l = (nI (n + l.length), fr, frc)
  | [], n, fr, frc => rfl
  | ν :: l, n, fr, frc => by
    have : P.op r 1 fa (nI n, fr, frc) ν = (nI (n + 1), fr, frc) := by
      unfold AP.op tk
      rw [if_neg (by decide), nI_1]
    show List.foldl (P.op r 1 fa) (P.op r 1 fa (nI n, fr, frc) ν) l = _
    rw [this, fold1 l (n + 1)]
    rw [List.length_cons, Nat.add_right_comm, Nat.add_assoc]
end
