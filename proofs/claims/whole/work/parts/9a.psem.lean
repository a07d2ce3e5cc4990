/-! what follows from rules: the abstract program, its strata, the least fixed point -/
def AP : Type := Nat × (Nat → Nat) × (Nat → Nat → Nat) × (Nat → Nat → Nat) × (Nat → Nat → Nat) × (Nat → Nat → Nat → Nat)
def AP.R (P : AP) : Nat := P.1
def AP.K (P : AP) : Nat → Nat := P.2.1
/-- a part's kind: 0 the head, 1 an atom, 2 a denied one, 3 and on comparisons -/
def AP.kd (P : AP) : Nat → Nat → Nat := P.2.2.1
def AP.pd (P : AP) : Nat → Nat → Nat := P.2.2.2.1
def AP.wd (P : AP) : Nat → Nat → Nat := P.2.2.2.2.1
/-- a term: a constant, or 12 and a letter -/
def AP.tm (P : AP) : Nat → Nat → Nat → Nat := P.2.2.2.2.2
/-- a term under constants for letters -/
def tv (σ : Nat → Nat) (m : Nat) : Nat := if m < 12 then m else σ (m - 12)
def AP.nu (P : AP) (r i : Nat) (σ : Nat → Nat) : Nat := nmv (fun t => tv σ (P.tm r i t)) (P.wd r i)
def AP.so (P : AP) (X N : Nat → Nat → Prop) (r i : Nat) (σ : Nat → Nat) : Prop :=
  (P.kd r i = 1 → X (P.pd r i) (P.nu r i σ)) ∧ (P.kd r i = 2 → ¬ N (P.pd r i) (P.nu r i σ)) ∧ (3 ≤ P.kd r i → cmpv (P.kd r i - 3) (tv σ (P.tm r i 0)) (tv σ (P.tm r i 1)) = true)
def AP.fits (P : AP) (X N : Nat → Nat → Prop) (r : Nat) (σ : Nat → Nat) : Prop := ∀ i, 1 ≤ i → i ≤ P.K r → P.so X N r i σ
def AP.clo (P : AP) (M : Nat → Prop) (N X : Nat → Nat → Prop) : Prop := ∀ r σ, r < P.R → M (P.pd r 0) → (∀ L, σ L < 12) → P.fits X N r σ → X (P.pd r 0) (P.nu r 0 σ)
def AP.der (P : AP) (M : Nat → Prop) (G : Nat → Nat → Prop) (p n : Nat) : Prop := ∀ X : Nat → Nat → Prop, (∀ q k, G q k → X q k) → P.clo M G X → X p n
theorem AP.so_mono {P : AP} {X Y N : Nat → Nat → Prop} {r i : Nat} {σ : Nat → Nat} (h : ∀ q k, X q k → Y q k) (a : P.so X N r i σ) : P.so Y N r i σ := ⟨fun z => h _ _ (a.1 z), a.2⟩
theorem AP.fits_mono {P : AP} {X Y N : Nat → Nat → Prop} {r : Nat} {σ : Nat → Nat} (h : ∀ q k, X q k → Y q k) (a : P.fits X N r σ) : P.fits Y N r σ := fun i h1 h2 => AP.so_mono h (a i h1 h2)
theorem AP.der_base {P : AP} {M : Nat → Prop} {G : Nat → Nat → Prop} {p n : Nat} (h : G p n) : P.der M G p n := fun _ h1 _ => h1 p n h
theorem AP.der_clo {P : AP} {M : Nat → Prop} {G : Nat → Nat → Prop} : P.clo M G (P.der M G) := fun r σ hr hM hs hf X h1 h2 => h2 r σ hr hM hs (AP.fits_mono (fun q k z => z X h1 h2) hf)
theorem AP.der_out {P : AP} {M : Nat → Prop} {G : Nat → Nat → Prop} {p n : Nat} (hp : ¬ M p) (h : P.der M G p n) : G p n := by
  have := h (fun q k => G q k ∨ M q) (fun q k z => Or.inl z) (fun r σ _ hM _ _ => Or.inr hM)
  rcases this with a | a
  · exact a
  · exact absurd a hp
theorem AP.der_iff {P : AP} {M : Nat → Prop} {G : Nat → Nat → Prop} {p n : Nat} (hp : ¬ M p) : P.der M G p n ↔ G p n := ⟨AP.der_out hp, AP.der_base⟩
/-- another set that holds the same where the rules look -/
theorem AP.der_local {P : AP} {M N : Nat → Prop} {G H : Nat → Nat → Prop} (hN : ∀ r, r < P.R → N (P.pd r 0) → ∀ i, 1 ≤ i → i ≤ P.K r → P.kd r i = 1 ∨ P.kd r i = 2 → N (P.pd r i)) (hg : ∀ q k, N q → (G q k ↔ H q k)) {p n : Nat} (hp : N p) (h : P.der M G p n) : P.der M H p n := fun X h1 h2 => by
  refine h (fun q k => N q → X q k) (fun q k z hq => h1 q k ((hg q k hq).mp z)) (fun r σ hr hM hs hf hq => h2 r σ hr hM hs (fun i a b => ?_)) hp
  obtain ⟨f1, f2, f3⟩ := hf i a b
  exact ⟨fun z => f1 z (hN r hr hq i a b (Or.inl z)), fun z y => f2 z ((hg _ _ (hN r hr hq i a b (Or.inr z))).mpr y), f3⟩
/-- the strata suit the rules -/
def AP.str (P : AP) (st : Nat → Nat) : Prop := ∀ r, r < P.R → (1 ≤ st (P.pd r 0) ∧ st (P.pd r 0) ≤ 10) ∧ ∀ i, 1 ≤ i → i ≤ P.K r → (P.kd r i = 1 → st (P.pd r i) ≤ st (P.pd r 0)) ∧ (P.kd r i = 2 → st (P.pd r i) < st (P.pd r 0))
/-- the strata filled one by one -/
def AP.lay (P : AP) (st : Nat → Nat) (B : Nat → Nat → Prop) : Nat → Nat → Nat → Prop
  | 0 => B
  | s + 1 => P.der (fun p => st p = s + 1) (P.lay st B s)
theorem AP.lay_keep {P : AP} {st : Nat → Nat} {B : Nat → Nat → Prop} {s p n : Nat} (h : st p ≠ s + 1) : P.lay st B (s + 1) p n ↔ P.lay st B s p n := AP.der_iff (M := fun p => st p = s + 1) h
theorem AP.lay_up {P : AP} {st : Nat → Nat} {B : Nat → Nat → Prop} {s p n : Nat} (h : st p ≤ s) : ∀ d, P.lay st B (s + d) p n ↔ P.lay st B s p n
  | 0 => Iff.rfl
  | d + 1 => (AP.lay_keep (s := s + d) (by omega)).trans (AP.lay_up h d)
theorem AP.lay_low {P : AP} {st : Nat → Nat} {B : Nat → Nat → Prop} {p n : Nat} : ∀ s, s < st p ∨ st p = 0 → (P.lay st B s p n ↔ B p n)
  | 0, _ => Iff.rfl
  | s + 1, h => (AP.lay_keep (by omega)).trans (AP.lay_low s (by omega))
theorem AP.lay_10 {P : AP} {st : Nat → Nat} {B : Nat → Nat → Prop} {s p n : Nat} (h : st p ≤ s) (hs : s ≤ 10) : P.lay st B 10 p n ↔ P.lay st B s p n := by
  have := AP.lay_up (P := P) (st := st) (B := B) (s := s) (p := p) (n := n) h (10 - s)
  rwa [show s + (10 - s) = 10 by omega] at this
theorem AP.lay_local {P : AP} {st : Nat → Nat} {N : Nat → Prop} {B C : Nat → Nat → Prop} (hN : ∀ r, r < P.R → N (P.pd r 0) → ∀ i, 1 ≤ i → i ≤ P.K r → P.kd r i = 1 ∨ P.kd r i = 2 → N (P.pd r i)) (hg : ∀ q k, N q → (B q k ↔ C q k)) : ∀ (s q k : Nat), N q → (P.lay st B s q k ↔ P.lay st C s q k)
  | 0, q, k, h => hg q k h
  | s + 1, q, k, h => ⟨AP.der_local hN (fun q k z => AP.lay_local hN hg s q k z) h, AP.der_local hN (fun q k z => (AP.lay_local hN hg s q k z).symm) h⟩
/-- only what is stale filled anew -/
def AP.ref (P : AP) (st : Nat → Nat) (sl : Nat → Prop) (B : Nat → Nat → Prop) : Nat → Nat → Nat → Prop
  | 0 => B
  | s + 1 => P.der (fun p => sl p ∧ st p = s + 1) (P.ref st sl B s)
theorem AP.ref_lay {P : AP} {st : Nat → Nat} {sl : Nat → Prop} {B C : Nat → Nat → Prop} (hs : P.str st) (h0 : ∀ p, sl p → 1 ≤ st p ∧ st p ≤ 10) (hN : ∀ r, r < P.R → ¬ sl (P.pd r 0) → ∀ i, 1 ≤ i → i ≤ P.K r → P.kd r i = 1 ∨ P.kd r i = 2 → ¬ sl (P.pd r i)) (hB : ∀ p n, sl p → ¬ B p n) (hC : ∀ p n, sl p → ¬ C p n) (hO : ∀ p n, ¬ sl p → (C p n ↔ P.lay st B 10 p n)) : ∀ s, s ≤ 10 → (∀ p n, ¬ sl p ∨ st p ≤ s → (P.ref st sl C s p n ↔ P.lay st B 10 p n)) ∧ (∀ p n, sl p → s < st p → ¬ P.ref st sl C s p n)
  | 0, _ => ⟨fun p n h => by
      rcases h with h | h
      · exact hO p n h
      · by_cases c : sl p
        · have := h0 p c; omega
        · exact hO p n c, fun p n h _ => hC p n h⟩
  | s + 1, hs10 => by
    obtain ⟨i1, i2⟩ := AP.ref_lay hs h0 hN hB hC hO s (by omega)
    refine ⟨fun p n h => ?_, fun p n h1 h2 z => i2 p n h1 (by omega) (AP.der_out (M := fun p => sl p ∧ st p = s + 1) (fun y => by omega) z)⟩
    by_cases c : sl p ∧ st p = s + 1
    · constructor
      · intro d
        refine d (fun q k => st q ≤ s + 1 ∨ ¬ sl q → P.lay st B 10 q k) (fun q k a b => ?_) (fun r σ hr hM hσ hf _ => ?_) (Or.inl (by omega))
        · by_cases e : sl q ∧ st q = s + 1
          · exact absurd a (i2 q k e.1 (by omega))
          · exact (i1 q k (by by_cases f : sl q <;> simp_all; omega)).mp a
        · refine (AP.lay_10 (s := s + 1) (Nat.le_of_eq hM.2) hs10).mpr (AP.der_clo (M := fun p => st p = s + 1) r σ hr hM.2 hσ (fun i a b => ?_))
          obtain ⟨f1, f2, f3⟩ := hf i a b
          obtain ⟨-, g⟩ := hs r hr
          obtain ⟨g1, g2⟩ := g i a b
          refine ⟨fun z => ?_, fun z y => f2 z ?_, f3⟩
          · have t := g1 z
            rw [hM.2] at t
            exact (AP.lay_10 (s := s + 1) t hs10).mp (f1 z (Or.inl t))
          · have t := g2 z
            rw [hM.2] at t
            exact (i1 _ _ (Or.inr (by omega))).mpr ((AP.lay_10 (s := s) (by omega) (by omega)).mpr y)
      · intro d
        have d1 := (AP.lay_10 (P := P) (B := B) (s := s + 1) (n := n) (Nat.le_of_eq c.2) hs10).mp d
        have key : ∀ q k, P.lay st B (s + 1) q k → (sl q → st q = s + 1 → P.ref st sl C (s + 1) q k) := fun q k z => by
          have := z (fun q k => P.lay st B (s + 1) q k ∧ (sl q → st q = s + 1 → P.ref st sl C (s + 1) q k)) (fun q k y => ⟨AP.der_base y, fun a b => absurd ((AP.lay_low s (by omega)).mp y) (hB q k a)⟩) (fun r σ hr hM hσ hf => ⟨AP.der_clo (M := fun p => st p = s + 1) r σ hr hM hσ (AP.fits_mono (fun q k y => y.1) hf), fun a b => ?_⟩)
          · exact this.2
          · refine AP.der_clo (M := fun p => sl p ∧ st p = s + 1) r σ hr ⟨a, b⟩ hσ (fun i e1 e2 => ?_)
            obtain ⟨f1, f2, f3⟩ := hf i e1 e2
            obtain ⟨-, g⟩ := hs r hr
            obtain ⟨g1, g2⟩ := g i e1 e2
            refine ⟨fun z => ?_, fun z y => f2 z ?_, f3⟩
            · have t := g1 z
              rw [b] at t
              obtain ⟨w1, w2⟩ := f1 z
              by_cases c1 : sl (P.pd r i) ∧ st (P.pd r i) = s + 1
              · exact w2 c1.1 c1.2
              · refine AP.der_base ((i1 _ _ ?_).mpr ((AP.lay_10 (s := s + 1) t hs10).mpr w1))
                by_cases c2 : sl (P.pd r i)
                · refine Or.inr ?_
                  have : st (P.pd r i) ≠ s + 1 := fun w => c1 ⟨c2, w⟩
                  omega
                · exact Or.inl c2
            · have t := g2 z
              rw [b] at t
              exact (AP.lay_10 (s := s) (by omega) (by omega)).mp ((i1 _ _ (Or.inr (by omega))).mp y)
        exact key p n d1 c.1 c.2
    · refine (AP.der_iff (M := fun p => sl p ∧ st p = s + 1) c).trans (i1 p n ?_)
      by_cases c2 : sl p
      · refine Or.inr ?_
        have : st p ≠ s + 1 := fun w => c ⟨c2, w⟩
        rcases h with h | h
        · exact absurd c2 h
        · omega
      · exact Or.inl c2
