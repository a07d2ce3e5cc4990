/-! sums over the constants of letters -/
def se (ν : Nat → Nat) (L c : Nat) : Nat → Nat := fun M => if M = L then c + 1 else ν M
noncomputable def cS : List Nat → (Nat → Nat) → ((Nat → Nat) → Nat) → Nat
  | [], ν, g => g ν
  | L :: Ls, ν, g => sx (fun c => cS Ls (se ν L c) g) 12 0
def Ext (Ls : List Nat) (ν κ : Nat → Nat) : Prop := (∀ L, ¬ L ∈ Ls → κ L = ν L) ∧ ∀ L, L ∈ Ls → κ L ≠ 0 ∧ κ L ≤ 12
theorem Ext.cons {L : Nat} {Ls : List Nat} {ν κ : Nat → Nat} {c : Nat} (hc : c < 12) (h : Ext Ls (se ν L c) κ) : Ext (L :: Ls) ν κ := by
  refine ⟨fun M hM => ?_, fun M hM => ?_⟩
  · have h1 : M ≠ L := fun z => hM (by rw [z]; exact List.mem_cons_self)
    have h2 : ¬ M ∈ Ls := fun z => hM (List.mem_cons_of_mem _ z)
    rw [h.1 M h2]
    exact if_neg h1
  · by_cases c2 : M ∈ Ls
    · exact h.2 M c2
    · rcases List.mem_cons.mp hM with e | e
      · rw [h.1 M c2, e]
        show (if L = L then c + 1 else ν L) ≠ 0 ∧ (if L = L then c + 1 else ν L) ≤ 12
        rw [if_pos rfl]
        omega
      · exact absurd e c2
theorem cS_congr {g h : (Nat → Nat) → Nat} : ∀ {Ls : List Nat} {ν : Nat → Nat}, (∀ κ, Ext Ls ν κ → g κ = h κ) → cS Ls ν g = cS Ls ν h
  | [], ν, e => e ν ⟨fun _ _ => rfl, fun _ z => absurd z List.not_mem_nil⟩
  | L :: Ls, ν, e => sx_congr (fun c _ hc => cS_congr (fun κ hκ => e κ (hκ.cons (by omega))))
theorem cS_zero {g : (Nat → Nat) → Nat} : ∀ {Ls : List Nat} {ν : Nat → Nat}, (∀ κ, Ext Ls ν κ → g κ = 0) → cS Ls ν g = 0
  | [], ν, e => e ν ⟨fun _ _ => rfl, fun _ z => absurd z List.not_mem_nil⟩
  | L :: Ls, ν, e => sx_zero (fun c _ hc => cS_zero (fun κ hκ => e κ (hκ.cons (by omega))))
theorem cS_append {g : (Nat → Nat) → Nat} : ∀ {A B : List Nat} {ν : Nat → Nat}, cS (A ++ B) ν g = cS A ν (fun κ => cS B κ g)
  | [], B, ν => rfl
  | L :: A, B, ν => sx_congr (fun c _ _ => cS_append)
theorem sx_add {f g : Nat → Nat} : ∀ {d x : Nat}, sx (fun c => f c + g c) d x = sx f d x + sx g d x
  | 0, _ => rfl
  | d + 1, x => by
    show f x + g x + sx (fun c => f c + g c) d (x + 1) = f x + sx f d (x + 1) + (g x + sx g d (x + 1))
    rw [sx_add]; omega
theorem sx_swap {f : Nat → Nat → Nat} {e y : Nat} : ∀ {d x : Nat}, sx (fun c => sx (fun b => f c b) e y) d x = sx (fun b => sx (fun c => f c b) d x) e y
  | 0, x => (sx_zero (fun _ _ _ => rfl)).symm
  | d + 1, x => by
    show sx (fun b => f x b) e y + sx (fun c => sx (fun b => f c b) e y) d (x + 1) = sx (fun b => f x b + sx (fun c => f c b) d (x + 1)) e y
    rw [sx_add, sx_swap]
theorem se_swap {ν : Nat → Nat} {L M c d : Nat} (h : L ≠ M) : se (se ν L c) M d = se (se ν M d) L c := by
  funext x
  unfold se
  by_cases h1 : x = M
  · rw [if_pos h1, if_neg (fun z => h (by rw [← z, h1])), if_pos h1]
  · rw [if_neg h1]
    by_cases h2 : x = L
    · rw [if_pos h2, if_pos h2]
    · rw [if_neg h2, if_neg h2, if_neg h1]
theorem cS_perm {g : (Nat → Nat) → Nat} {A B : List Nat} (h : A.Perm B) : ∀ ν, cS A ν g = cS B ν g := by
  induction h with
  | nil => exact fun ν => rfl
  | cons x _ ih => exact fun ν => sx_congr (fun c _ _ => ih _)
  | swap x y l =>
    intro ν
    by_cases e : x = y
    · rw [e]
    · show sx (fun c => sx (fun d => cS l (se (se ν y c) x d) g) 12 0) 12 0 = sx (fun d => sx (fun c => cS l (se (se ν x d) y c) g) 12 0) 12 0
      rw [sx_swap]
      exact sx_congr (fun d _ _ => sx_congr (fun c _ _ => by rw [se_swap (fun z => e z.symm)]))
  | trans _ _ i1 i2 => exact fun ν => (i1 ν).trans (i2 ν)
theorem sx_point {f : Nat → Nat} {c0 : Nat} : ∀ {d x : Nat}, x ≤ c0 → c0 < x + d → (∀ c, x ≤ c → c < x + d → c ≠ c0 → f c = 0) → sx f d x = f c0
  | 0, x, h1, h2, _ => by omega
  | d + 1, x, h1, h2, h3 => by
    show f x + sx f d (x + 1) = f c0
    by_cases e : x = c0
    · rw [e, sx_zero (fun c h4 h5 => h3 c (by omega) (by omega) (by omega)), Nat.add_zero]
    · rw [h3 x (Nat.le_refl x) (by omega) e, sx_point (by omega) (by omega) (fun c h4 h5 => h3 c (by omega) (by omega)), Nat.zero_add]
theorem cS_point {f : (Nat → Nat) → Nat} {μ : Nat → Nat} : ∀ {H : List Nat} {ν : Nat → Nat}, H.Nodup → Ext H ν μ → (∀ κ, Ext H ν κ → κ ≠ μ → f κ = 0) → cS H ν f = f μ
  | [], ν, _, h, _ => by
    have : μ = ν := funext (fun L => h.1 L List.not_mem_nil)
    rw [this]; rfl
  | L :: H, ν, hd, h, hz => by
    obtain ⟨n1, n2⟩ := List.nodup_cons.mp hd
    have hL := h.2 L List.mem_cons_self
    have eL : ∀ c, (se ν L c) L = c + 1 := fun c => if_pos rfl
    show sx (fun c => cS H (se ν L c) f) 12 0 = f μ
    rw [sx_point (c0 := μ L - 1) (Nat.zero_le _) (by omega) (fun c _ c12 hc => cS_zero (fun κ hκ => ?_))]
    · refine cS_point n2 ⟨fun M hM => ?_, fun M hM => h.2 M (List.mem_cons_of_mem _ hM)⟩ (fun κ hκ => hz κ (hκ.cons (by omega)))
      by_cases e : M = L
      · rw [e, eL]; omega
      · rw [h.1 M (fun z => (List.mem_cons.mp z).elim e hM)]
        exact (if_neg e).symm
    · refine hz κ (hκ.cons (by omega)) (fun z => ?_)
      have := hκ.1 L n1
      rw [eL, z] at this
      omega
/-- the letters that terms t and on bind anew -/
def ul (tm : Nat → Nat) : Nat → Nat → (Nat → Bool) → List Nat
  | 0, _, _ => []
  | d + 1, t, b => if tm t < 12 ∨ b (tm t - 12) = true then ul tm d (t + 1) b else (tm t - 12) :: ul tm d (t + 1) (fun L => b L || decide (L = tm t - 12))
theorem ul_mem {tm : Nat → Nat} {L : Nat} : ∀ {d t : Nat} {b : Nat → Bool}, L ∈ ul tm d t b ↔ b L = false ∧ ∃ u, t ≤ u ∧ u < t + d ∧ tm u = 12 + L
  | 0, t, b => ⟨fun h => absurd h List.not_mem_nil, fun ⟨_, u, h1, h2, _⟩ => by omega⟩
  | d + 1, t, b => by
    show L ∈ (if tm t < 12 ∨ b (tm t - 12) = true then ul tm d (t + 1) b else (tm t - 12) :: ul tm d (t + 1) (fun L => b L || decide (L = tm t - 12))) ↔ _
    by_cases c : tm t < 12 ∨ b (tm t - 12) = true
    · rw [if_pos c, ul_mem]
      constructor
      · rintro ⟨h1, u, h2, h3, h4⟩
        exact ⟨h1, u, by omega, by omega, h4⟩
      · rintro ⟨h1, u, h2, h3, h4⟩
        refine ⟨h1, u, ?_, by omega, h4⟩
        have : u ≠ t := fun z => by
          subst z
          rcases c with c | c
          · omega
          · rw [h4, show 12 + L - 12 = L by omega, h1] at c
            exact absurd c (by decide)
        omega
    · have c1 : ¬ tm t < 12 := fun z => c (Or.inl z)
      have c2 : b (tm t - 12) = false := by
        cases hb : b (tm t - 12) with
        | false => rfl
        | true => exact absurd (Or.inr hb) c
      rw [if_neg c, List.mem_cons, ul_mem]
      constructor
      · rintro (h | ⟨h1, u, h2, h3, h4⟩)
        · exact ⟨by rw [h]; exact c2, t, Nat.le_refl t, by omega, by omega⟩
        · simp at h1
          exact ⟨h1.1, u, by omega, by omega, h4⟩
      · rintro ⟨h1, u, h2, h3, h4⟩
        by_cases e : L = tm t - 12
        · exact Or.inl e
        · refine Or.inr ⟨by simp [h1, e], u, ?_, by omega, h4⟩
          have : u ≠ t := fun z => by subst z; omega
          omega
theorem ul_nodup {tm : Nat → Nat} : ∀ {d t : Nat} {b : Nat → Bool}, (ul tm d t b).Nodup
  | 0, t, b => List.nodup_nil
  | d + 1, t, b => by
    show (if tm t < 12 ∨ b (tm t - 12) = true then ul tm d (t + 1) b else (tm t - 12) :: ul tm d (t + 1) (fun L => b L || decide (L = tm t - 12))).Nodup
    split
    · exact ul_nodup
    · refine List.nodup_cons.mpr ⟨fun z => ?_, ul_nodup⟩
      have := (ul_mem.mp z).1
      simp at this
theorem vl_len {α : Type} {g : Nat → List α} : ∀ {d v : Nat}, (vl g d v).length = sx (fun v => (g v).length) d v
  | 0, v => rfl
  | d + 1, v => by
    show (g v ++ vl g d (v + 1)).length = (g v).length + sx (fun v => (g v).length) d (v + 1)
    rw [List.length_append, vl_len]
theorem bnd_same {ν : Nat → Nat} {m : Nat} (h : tn ν m ≠ 0) : bnd ν m (tn ν m - 1) = ν := by
  funext L
  show (if m = 12 + L then tn ν m - 1 + 1 else ν L) = ν L
  by_cases c : m = 12 + L
  · rw [if_pos c]
    have : tn ν m = ν L := by
      unfold tn
      rw [if_neg (by omega), show m - 12 = L by omega]
    omega
  · rw [if_neg c]
theorem bnd_se {ν : Nat → Nat} {m v : Nat} (h : ¬ m < 12) : bnd ν m v = se ν (m - 12) v := by
  funext L
  show (if m = 12 + L then v + 1 else ν L) = (if L = m - 12 then v + 1 else ν L)
  by_cases c : m = 12 + L
  · rw [if_pos c, if_pos (by omega)]
  · rw [if_neg c, if_neg (by omega)]
