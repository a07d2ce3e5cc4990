/-! collect: what a rule tells goes to the fresh facts -/
theorem S_fold0 {P : AP} {r : Nat} {fa : Nat → Int32} (hp : P.pd r 0 < 10) : ∀ (l : List (Nat → Nat)) (st : Int32 × (Nat → Int32) × (Nat → Int32)), (∀ ν, ν ∈ l → P.nn r 0 ν < 1728) → FSok st.2.1 st.2.2 → FSok (List.foldl (P.op r 0 fa) st l).2.1 (List.foldl (P.op r 0 fa) st l).2.2 ∧ ∀ q k, k < 1728 → (fh (List.foldl (P.op r 0 fa) st l).2.1 q k = true ↔ (fh st.2.1 q k = true ∨ (q = P.pd r 0 ∧ fh fa q k = false ∧ ∃ ν, ν ∈ l ∧ k = P.nn r 0 ν)))
  | [], st, _, ok => ⟨ok, fun q k hk => ⟨fun z => Or.inl z, fun z => z.elim id (fun ⟨_, _, ν, h, _⟩ => absurd h List.not_mem_nil)⟩⟩
  | ν :: l, st, hl, ok => by
    have hn := hl ν List.mem_cons_self
    have step : FSok (P.op r 0 fa st ν).2.1 (P.op r 0 fa st ν).2.2 ∧ ∀ q k, k < 1728 → (fh (P.op r 0 fa st ν).2.1 q k = true ↔ (fh st.2.1 q k = true ∨ (q = P.pd r 0 ∧ fh fa q k = false ∧ k = P.nn r 0 ν))) := by
      unfold AP.op tk
      rw [if_pos rfl]
      cases hf : fh fa (P.pd r 0) (P.nn r 0 ν) with
      | true =>
        rw [if_pos rfl]
        refine ⟨ok, fun q k hk => ⟨fun z => Or.inl z, fun z => z.elim id (fun ⟨h1, h2, h3⟩ => ?_)⟩⟩
        rw [h1, h3, hf] at h2
        exact absurd h2 (by decide)
      | false =>
        rw [if_neg (by decide)]
        obtain ⟨fr', frc', e, ok', g⟩ := S_addX (row := st.2.1) (count := st.2.2) hp hn ok
        have e2 := (S_add (row := st.2.1) (count := st.2.2) hp hn).symm.trans e
        have e2 := Option.some.inj e2
        show FSok (if fh st.2.1 (P.pd r 0) (P.nn r 0 ν) then (st.2.1, st.2.2) else _).1 (if fh st.2.1 (P.pd r 0) (P.nn r 0 ν) then (st.2.1, st.2.2) else _).2 ∧ _
        rw [e2]
        refine ⟨ok', fun q k hk => ?_⟩
        rw [g q k hk, Bool.or_eq_true, decide_eq_true_iff]
        constructor
        · rintro (h | ⟨h1, h2⟩)
          · exact Or.inl h
          · exact Or.inr ⟨h1, by rw [h1, h2]; exact hf, h2⟩
        · rintro (h | ⟨h1, _, h2⟩)
          · exact Or.inl h
          · exact Or.inr ⟨h1, h2⟩
    obtain ⟨a1, a2⟩ := S_fold0 hp l (P.op r 0 fa st ν) (fun μ hμ => hl μ (List.mem_cons_of_mem _ hμ)) step.1
    refine ⟨a1, fun q k hk => (a2 q k hk).trans ?_⟩
    rw [step.2 q k hk]
    constructor
    · rintro ((h | ⟨h1, h2, h3⟩) | ⟨h1, h2, μ, h3, h4⟩)
      · exact Or.inl h
      · exact Or.inr ⟨h1, h2, ν, List.mem_cons_self, h3⟩
      · exact Or.inr ⟨h1, h2, μ, List.mem_cons_of_mem _ h3, h4⟩
    · rintro (h | ⟨h1, h2, μ, h3, h4⟩)
      · exact Or.inl (Or.inl h)
      · rcases List.mem_cons.mp h3 with e | e
        · exact Or.inl (Or.inr ⟨h1, h2, by rw [← e]; exact h4⟩)
        · exact Or.inr ⟨h1, h2, μ, e, h4⟩
section
variable {F : Nat} {P : AP} {s : Nat → Nat} {kind who width term start : Nat → Int32} {plan fa fac fr frc la lac : Nat → Int32}
theorem S_hopeless_L (ok : P.ok) (hc : PC P s kind who width term start) {r le : Nat} (hr : r < P.R) (hle : le ≤ P.K r) (oa : FSok fa fac) (ol : FSok la lac) : ∀ (d j n : Nat), j + d = P.K r + 1 → 1 ≤ j → d < n → M_Search_isHopeless_L7 F (nI (s r + P.K r + 1)) (if le = 0 then -1 else nI (s r + le)) fac lac kind who n (nI (s r + j)) = some (.inl ()) ∨ (M_Search_isHopeless_L7 F (nI (s r + P.K r + 1)) (if le = 0 then -1 else nI (s r + le)) fac lac kind who n (nI (s r + j)) = some (.inr 1) ∧ ∃ i, 1 ≤ i ∧ i ≤ P.K r ∧ P.kd r i = 1 ∧ ∀ x, x < 1728 → P.src r le fa la i x = false)
  | 0, j, n, hj, h1, hn => by
    obtain ⟨n, rfl⟩ : ∃ m, n = m + 1 := ⟨n - 1, by omega⟩
    obtain ⟨-, -, h240, e⟩ := hc r hr
    refine Or.inl ?_
    unfold M_Search_isHopeless_L7
    rw [if_pos (nI_le (by omega) (by omega))]
  | d + 1, j, n, hj, h1, hn => by
    obtain ⟨n, rfl⟩ : ∃ m, n = m + 1 := ⟨n - 1, by omega⟩
    have ih := S_hopeless_L ok hc hr hle oa ol d (j + 1) n (by omega) (by omega) (by omega)
    obtain ⟨-, -, h240, e⟩ := hc r hr
    obtain ⟨ek, ew, ewd, et⟩ := e j (by omega)
    obtain ⟨k5, k1, w3, w2, p10, t38⟩ := (ok.2 r hr).2.2 j (by omega)
    unfold M_Search_isHopeless_L7
    rw [if_neg (nI_ge (a := s r + j) (b := s r + P.K r + 1) (by omega) (by omega)), gd_n _ (show s r + j < 240 by omega) (by decide), nI_clamp (show s r + j < 2 ^ 31 by omega), ek]
    by_cases c1 : P.kd r j = 1
    · have p10 := p10 (by omega)
      rw [if_pos (show nI (P.kd r j) = (1 : Int32) by rw [c1]; rfl), ew (by omega)]
      have size0 : ∀ {row count : Nat → Int32}, FSok row count → (count (P.pd r j) = 0 ↔ fc row (P.pd r j) = 0) := fun {row count} h => by
        rw [h.2 _ p10]
        have := fc_le row (P.pd r j)
        exact nI_eq (b := 0) (by omega) (by decide)
      by_cases c : j = le
      · rw [if_pos ((LE_iff h1 (by omega) (by omega)).mpr c), gd_n _ (show s r + j < 240 by omega) (by decide), bd_e _ (S_size p10)]
        by_cases c2 : fc la (P.pd r j) = 0
        · rw [if_pos ((size0 ol).mpr c2)]
          refine Or.inr ⟨rfl, j, h1, by omega, c1, fun x hx => ?_⟩
          unfold AP.src
          rw [if_pos c]
          exact ct_0 c2 x hx
        · rw [if_neg (fun z => c2 ((size0 ol).mp z)), lt_e, nI_1]
          exact ih
      · rw [if_neg (fun z => c ((LE_iff h1 (by omega) (by omega)).mp z)), gd_n _ (show s r + j < 240 by omega) (by decide), bd_e _ (S_size p10)]
        by_cases c2 : fc fa (P.pd r j) = 0
        · rw [if_pos ((size0 oa).mpr c2)]
          refine Or.inr ⟨rfl, j, h1, by omega, c1, fun x hx => ?_⟩
          unfold AP.src
          rw [if_neg c]
          exact ct_0 c2 x hx
        · rw [if_neg (fun z => c2 ((size0 oa).mp z)), lt_e, nI_1]
          exact ih
    · rw [if_neg (show ¬ nI (P.kd r j) = (1 : Int32) from fun z => c1 ((nI_eq (a := P.kd r j) (b := 1) (by omega) (by decide)).mp z)), lt_e, nI_1]
      exact ih
theorem S_hopeless (ok : P.ok) (hc : PC P s kind who width term start) {r le : Nat} (hr : r < P.R) (hle : le ≤ P.K r) (oa : FSok fa fac) (ol : FSok la lac) (hF : 6 < F) : M_Search_isHopeless F (nI (s r)) (nI (s r + P.K r + 1)) (if le = 0 then -1 else nI (s r + le)) fac lac kind who = some 0 ∨ (M_Search_isHopeless F (nI (s r)) (nI (s r + P.K r + 1)) (if le = 0 then -1 else nI (s r + le)) fac lac kind who = some 1 ∧ ∃ i, 1 ≤ i ∧ i ≤ P.K r ∧ P.kd r i = 1 ∧ ∀ x, x < 1728 → P.src r le fa la i x = false) := by
  have h5 := (ok.2 r hr).1
  have h := S_hopeless_L (F := F) ok hc hr hle oa ol (P.K r) 1 F (by omega) (Nat.le_refl 1) (by omega)
  unfold M_Search_isHopeless
  rw [lt_e, nI_1]
  rcases h with h | ⟨h, h2⟩
  · exact Or.inl (bd_e (fun z7 => cs_ z7 (fun q8 => some (0 : Int32)) (fun o => some o)) h)
  · exact Or.inr ⟨bd_e (fun z7 => cs_ z7 (fun q8 => some (0 : Int32)) (fun o => some o)) h, h2⟩
theorem S_open (ok : P.ok) (hc : PC P s kind who width term start) {r : Nat} (hr : r < P.R) {a b c x : Int32} : M_Search_open a b c start (nI r) x = some (nI (s r), nI (s r + P.K r + 1), x) := by
  obtain ⟨e1, e2, h240, e⟩ := hc r hr
  have r16 := ok.1
  unfold M_Search_open
  rw [gd_n _ (show r < 241 by omega) (by decide), lt_e, nI_clamp (show r < 2 ^ 31 by omega), nI_1, gd_n _ (show r + 1 < 241 by omega) (by decide), lt_e, nI_clamp (show r + 1 < 2 ^ 31 by omega), e1, e2]
/-- the body is so under σ, part le by the latest facts -/
def AP.bso (P : AP) (r le : Nat) (fa la : Nat → Int32) (σ : Nat → Nat) : Prop := (∀ L, σ L < 12) ∧ ∀ i, 1 ≤ i → i ≤ P.K r → P.sob r le fa la i (fun L => σ L + 1) = true
theorem nn_σ {r i : Nat} (σ : Nat → Nat) : P.nn r i (fun L => σ L + 1) = P.nu r i σ := nmv_congr (fun t _ => by rw [tn_σ]; rfl)
theorem AP.nu_lt (ok : P.ok) {r i : Nat} (hr : r < P.R) (hi : i ≤ P.K r) {σ : Nat → Nat} (hσ : ∀ L, σ L < 12) : P.nu r i σ < 1728 := nmv_lt3 ((ok.2 r hr).2.2 i hi).2.2.1 (fun t _ => tv_lt hσ _)
/-- the solutions of the list are the σ that make the body so -/
theorem sll_iff (ok : P.ok) (sf : P.safe) {r le m : Nat} (hr : r < P.R) {pl : Nat → Nat} (hp : P.pln s r (fun _ => false) plan m pl) (hall : ∀ i, 1 ≤ i → i ≤ P.K r → ∃ j, j < m ∧ pl j = i) : (∀ ν, ν ∈ P.sll r le fa la pl m 0 (fun _ => 0) → ∃ σ, P.bso r le fa la σ ∧ P.nn r 0 ν = P.nu r 0 σ) ∧ ∀ σ, P.bso r le fa la σ → ∃ ν, ν ∈ P.sll r le fa la pl m 0 (fun _ => 0) ∧ P.nn r 0 ν = P.nu r 0 σ := by
  have b0 : ∀ L, ((fun _ => false : Nat → Bool) L = true ∨ ∃ i, i < 0 ∧ P.le r (pl i) L = true) → (fun _ => 0 : Nat → Nat) L ≠ 0 := fun L hL => by
    rcases hL with h | ⟨i, h, _⟩
    · exact absurd h Bool.false_ne_true
    · exact absurd h (Nat.not_lt_zero _)
  have headb : ∀ ν : Nat → Nat, (∀ q, q < m → ∀ L, P.le r (pl q) L = true → ν L ≠ 0) → ∀ L, P.le r 0 L = true → ν L ≠ 0 := fun ν h L hL => by
    obtain ⟨i, i1, i2, i3, i4⟩ := sf r hr 0 (Nat.zero_le _) (by rw [(ok.2 r hr).2.1]; decide) L hL
    obtain ⟨q, q1, q2⟩ := hall i i1 i2
    exact h q q1 L (by rw [q2]; exact i4)
  constructor
  · intro ν hν
    obtain ⟨a1, a2, a3⟩ := sll_mem1 ok hr hp m 0 (fun _ => 0) (by omega) (fun _ => Nat.zero_le _) b0 hν
    have ag : ∀ L, ν L ≠ 0 → (fun L => (ν L - 1) + 1) L = ν L := fun L hL => by show ν L - 1 + 1 = ν L; omega
    refine ⟨fun L => ν L - 1, ⟨fun L => by have := a1 L; show ν L - 1 < 12; omega, fun i i1 i2 => ?_⟩, ?_⟩
    · obtain ⟨q, q1, q2⟩ := hall i i1 i2
      obtain ⟨c1, c2⟩ := a3 q (Nat.zero_le _) q1
      rw [q2] at c1 c2
      obtain ⟨k5, k1, w3, w2, -, -⟩ := (ok.2 r hr).2.2 i i2
      rw [AP.sob_congr (κ := ν) w2 (fun t ht => tn_ext ag (AP.tn_le_ne c2 ht)) (k1 i1)]
      exact c1
    · rw [← nn_σ]
      refine nmv_congr (fun t ht => ?_)
      rw [tn_ext ag (AP.tn_le_ne (headb ν (fun q q1 => (a3 q (Nat.zero_le _) q1).2)) ht)]
  · intro σ hσ
    obtain ⟨μ, b1, b2, b3⟩ := sll_mem2 ok hr hp hσ.1 (fun q hq => hσ.2 _ (hp.1 q hq).2.1 (hp.1 q hq).2.2) m 0 (fun _ => 0) (by omega) (fun L h => absurd rfl h) b0
    refine ⟨μ, b1, ?_⟩
    rw [← nn_σ]
    refine nmv_congr (fun t ht => ?_)
    rw [tn_ext (ν := μ) (μ := fun L => σ L + 1) (fun L hL => (b2 L hL).symm) (AP.tn_le_ne (headb μ (fun q q1 L hL => b3 L (Or.inr ⟨q, q1, hL⟩))) ht)]
theorem S_collect (ok : P.ok) (sf : P.safe) (hc : PC P s kind who width term start) (hF : 13 < F) {r le : Nat} (hr : r < P.R) (hle : le ≤ P.K r) (hk1 : le ≠ 0 → P.kd r le = 1) {value : Nat → Int32} {planned x1 x2 x3 cnt sol : Int32} (hv : VV value (fun _ => 0)) (oa : FSok fa fac) (of : FSok fr frc) (ol : FSok la lac) : ∃ plan' planned' y1 y2 cnt' sol' fr' frc', M_Search_collect F value plan planned x1 x2 x3 cnt sol fa fac fr frc la lac kind who width term start (nI r) (if le = 0 then -1 else nI (s r + le)) = some (value, plan', planned', y1, y2, (if le = 0 then -1 else nI (s r + le)), cnt', sol', fr', frc') ∧ FSok fr' frc' ∧ ∀ q k, k < 1728 → (fh fr' q k = true ↔ (fh fr q k = true ∨ (q = P.pd r 0 ∧ fh fa q k = false ∧ ∃ σ, P.bso r le fa la σ ∧ k = P.nu r 0 σ))) := by
  have k0 := (ok.2 r hr).2.1
  have p10 := ((ok.2 r hr).2.2 0 (Nat.zero_le _)).2.2.2.2.1 (by omega)
  unfold M_Search_collect
  rw [bd_e _ (S_open ok hc hr)]
  rcases S_hopeless (F := F) ok hc hr hle oa ol (by omega) with h | ⟨h, i, i1, i2, i3, i4⟩
  · obtain ⟨plan', m, pl, e1, m5, hp, hall⟩ := S_makePlan (F := F) (plan := plan) (planned := planned) (x0 := 0) (B0 := fun _ => false) ok sf hc (by omega) hr hle hk1 (fun b _ => b_0 b) (fun L h => absurd h Bool.false_ne_true)
    have es := S_solve (F := F) (fa := fa) (la := la) (cnt := 0) ok sf hc hr hle hF m5 hp hall m 0 24 value (fun _ => 0) (sol, fr, frc) (by omega) (by omega) hv (fun L hL => by
      rcases hL with h | ⟨i, h, _⟩
      · exact absurd h Bool.false_ne_true
      · exact absurd h (Nat.not_lt_zero _))
    have es : M_Search_solve F value plan' (nI m) (nI (s r)) (if le = 0 then -1 else nI (s r + le)) (0 : Int32) sol fa fr frc la kind who width term (0 : Int32) = _ := es
    rw [bd_e _ h, if_pos rfl, bd_e _ e1, bd_e _ es]
    obtain ⟨l1, l2⟩ := sll_iff (fa := fa) (la := la) (le := le) ok sf hr hp hall
    obtain ⟨a1, a2⟩ := S_fold0 (fa := fa) p10 (P.sll r le fa la pl m 0 (fun _ => 0)) (sol, fr, frc) (fun ν hν => by
      obtain ⟨σ, hσ, e⟩ := l1 ν hν
      rw [e]
      exact AP.nu_lt ok hr (Nat.zero_le _) hσ.1) of
    refine ⟨_, _, _, _, _, _, _, _, rfl, a1, fun q k hk => (a2 q k hk).trans ?_⟩
    constructor
    · rintro (z | ⟨z1, z2, ν, z3, z4⟩)
      · exact Or.inl z
      · obtain ⟨σ, hσ, e⟩ := l1 ν z3
        exact Or.inr ⟨z1, z2, σ, hσ, z4.trans e⟩
    · rintro (z | ⟨z1, z2, σ, z3, z4⟩)
      · exact Or.inl z
      · obtain ⟨ν, hν, e⟩ := l2 σ z3
        exact Or.inr ⟨z1, z2, ν, hν, z4.trans e.symm⟩
  · rw [bd_e _ h, if_neg (by decide)]
    refine ⟨_, _, _, _, _, _, _, _, rfl, of, fun q k hk => ⟨fun z => Or.inl z, fun z => z.elim id (fun ⟨_, _, σ, hσ, _⟩ => ?_)⟩⟩
    have := hσ.2 i i1 i2
    unfold AP.sob at this
    rw [if_pos i3, nn_σ, i4 _ (AP.nu_lt ok hr i2 hσ.1)] at this
    exact absurd this (by decide)
end
