/-! derivations alike -/
theorem nmv_inj {f g : Nat → Nat} : ∀ {w : Nat}, (∀ t, t < w → f t < 12) → (∀ t, t < w → g t < 12) → nmv f w = nmv g w → ∀ t, t < w → f t = g t
  | 0, _, _, _, t, ht => absurd ht (Nat.not_lt_zero _)
  | w + 1, hf, hg, e, t, ht => by
    have e : nmv f w * 12 + f w = nmv g w * 12 + g w := e
    have h1 := hf w (by omega)
    have h2 := hg w (by omega)
    by_cases c : t = w
    · subst c; omega
    · exact nmv_inj (w := w) (fun t ht => hf t (by omega)) (fun t ht => hg t (by omega)) (by omega) t (by omega)
section
variable {F : Nat} {term : Nat → Int32}
theorem S_bind_L {h w : Nat} {tm dg : Nat → Nat} (hh : h < 240) (hw : w ≤ 3) (ht : ∀ t, t < w → term (3 * h + t) = nI (tm t) ∧ tm t < 38) (hd : ∀ t, dg t < 12) : ∀ (t n : Nat) (ν : Nat → Nat) (value : Nat → Int32), t ≤ w → t < n → VV value ν → (∀ u, t ≤ u → u < w → tn ν (tm u) = dg u + 1) → (∀ L, ν L ≠ 0 → ∃ u, t ≤ u ∧ u < w ∧ tm u = 12 + L) →
    (∃ value' μ, M_Search_bindHead_L17 F (nI h) term n (yv t) (nI (nmv dg t)) value = some (.inl value') ∧ VV value' μ ∧ (∀ u, u < w → tn μ (tm u) = dg u + 1) ∧ ∀ L, μ L ≠ 0 → ∃ u, u < w ∧ tm u = 12 + L) ∨ (∃ value' μ, M_Search_bindHead_L17 F (nI h) term n (yv t) (nI (nmv dg t)) value = some (.inr (0, value')) ∧ VV value' μ ∧ ¬ ∃ κ, ∀ u, u < w → tn κ (tm u) = dg u + 1)
  | 0, n, ν, value, htw, hn, hv, hu, hs => by
    obtain ⟨n, rfl⟩ : ∃ m, n = m + 1 := ⟨n - 1, by omega⟩
    refine Or.inl ⟨value, ν, ?_, hv, fun u h1 => hu u (Nat.zero_le _) h1, fun L hL => by
      obtain ⟨u, _, h2⟩ := hs L hL
      exact ⟨u, h2⟩⟩
    unfold M_Search_bindHead_L17
    rw [if_pos (show yv 0 < 0 by decide +kernel)]
  | t + 1, n, ν, value, htw, hn, hv, hu, hs => by
    obtain ⟨n, rfl⟩ : ∃ m, n = m + 1 := ⟨n - 1, by omega⟩
    obtain ⟨e1, e2⟩ := ht t (by omega)
    obtain ⟨ev, h12⟩ := hv _ e2
    have hdt := hd t
    have hlt : nmv dg t * 12 + dg t < 1728 := nmv_lt3 (v := dg) (w := t + 1) (by omega) (fun u _ => hd u)
    have y1 : yv (t + 1) = nI t := rfl
    have er : nI (nmv dg (t + 1)) - nI (nmv dg (t + 1)) / (12 : Int32) * (12 : Int32) = nI (dg t) := by
      rw [nmv_s, f_rem (by omega)]
      exact congrArg nI (by omega)
    have eq : nI (nmv dg (t + 1)) / (12 : Int32) = nI (nmv dg t) := by
      rw [nmv_s, f_div (by omega)]
      exact congrArg nI (by omega)
    unfold M_Search_bindHead_L17
    rw [y1, if_neg (nI_pos (by omega)), x3, gd_n _ (show 3 * h + t < 720 by omega) (by decide), lt_e, nI_clamp (show 3 * h + t < 2 ^ 31 by omega), e1, lt_e, er, gd_n _ e2 (by decide), nI_clamp (show tm t < 2 ^ 31 by omega), ev]
    have go : (tn ν (tm t) = 0 ∨ tn ν (tm t) = dg t + 1) → (∃ value' μ, M_Search_bindHead_L17 F (nI h) term n (yv t) (nI (nmv dg t)) (upd value (tm t) (nI (dg t))) = some (.inl value') ∧ VV value' μ ∧ (∀ u, u < w → tn μ (tm u) = dg u + 1) ∧ ∀ L, μ L ≠ 0 → ∃ u, u < w ∧ tm u = 12 + L) ∨ (∃ value' μ, M_Search_bindHead_L17 F (nI h) term n (yv t) (nI (nmv dg t)) (upd value (tm t) (nI (dg t))) = some (.inr (0, value')) ∧ VV value' μ ∧ ¬ ∃ κ, ∀ u, u < w → tn κ (tm u) = dg u + 1) := fun hc => S_bind_L hh hw ht hd t n (bnd ν (tm t) (dg t)) _ (by omega) (by omega) (VV_bnd hv hdt hc) (fun u h1 h2 => by
      by_cases e : u = t
      · subst e; exact tn_bnd hc
      · have := hu u (by omega) h2
        rw [tn_ext (bnd_ext hc) (by omega), this]) (fun L hL => by
      by_cases e : tm t = 12 + L
      · exact ⟨t, Nat.le_refl t, by omega, e⟩
      · have : bnd ν (tm t) (dg t) L = ν L := if_neg e
        rw [this] at hL
        obtain ⟨u, h1, h2, h3⟩ := hs L hL
        exact ⟨u, by omega, h2, h3⟩)
    by_cases c : tn ν (tm t) = 0
    · rw [if_pos (by rw [c]; rfl), gd_n _ e2 (by decide), lt_e, lt_e, lt_e, eq, nI_m1]
      exact go (Or.inl c)
    · rw [yv_p c, if_neg (nI_nm1 (by omega)), gd_n _ e2 (by decide)]
      by_cases c2 : tn ν (tm t) = dg t + 1
      · rw [if_pos (congrArg nI (by omega)), gd_n _ e2 (by decide), lt_e, lt_e, lt_e, eq, nI_m1]
        exact go (Or.inr c2)
      · rw [if_neg (fun z => by have := (nI_eq (a := tn ν (tm t) - 1) (b := dg t) (by omega) (by omega)).mp z; omega)]
        refine Or.inr ⟨value, ν, rfl, hv, fun ⟨κ, hκ⟩ => c2 ?_⟩
        have k1 := hκ t (by omega)
        unfold tn at c k1 ⊢
        by_cases c3 : tm t < 12
        · rw [if_pos c3] at k1 ⊢
          exact k1
        · rw [if_neg c3] at c k1 ⊢
          obtain ⟨u, u1, u2, u3⟩ := hs _ c
          have k2 := hκ u u2
          have k3 := hu u u1 u2
          unfold tn at k2 k3
          rw [u3, if_neg (by omega), show 12 + (tm t - 12) - 12 = tm t - 12 by omega] at k2 k3
          omega
theorem S_reset : ∀ (d j n : Nat) (value : Nat → Int32), j + d = 38 → 12 ≤ j → d < n → ∃ value', M_Search_countSolutions_L54 F n (nI j) value = some value' ∧ ∀ y, y < 38 → value' y = if j ≤ y then -1 else value y
  | 0, j, n, value, hj, h12, hn => by
    obtain ⟨n, rfl⟩ : ∃ m, n = m + 1 := ⟨n - 1, by omega⟩
    unfold M_Search_countSolutions_L54
    rw [if_pos (show (38 : Int32) ≤ nI j from nI_le (a := 38) (by omega) (by omega))]
    exact ⟨value, rfl, fun y hy => (if_neg (by omega)).symm⟩
  | d + 1, j, n, value, hj, h12, hn => by
    obtain ⟨n, rfl⟩ : ∃ m, n = m + 1 := ⟨n - 1, by omega⟩
    obtain ⟨v', e, h⟩ := S_reset d (j + 1) n (upd value j (-1)) (by omega) (by omega) (by omega)
    unfold M_Search_countSolutions_L54
    rw [if_neg (show ¬ (38 : Int32) ≤ nI j from nI_ge (a := j) (b := 38) (by omega) (by decide)), gd_n _ (show j < 38 by omega) (by decide), lt_e, lt_e, nI_clamp (show j < 2 ^ 31 by omega), nI_1]
    refine ⟨v', e, fun y hy => ?_⟩
    rw [h y hy]
    by_cases c : y = j
    · subst c; rw [if_neg (by omega), pk_us, if_pos (Nat.le_refl y)]
    · rw [pk_un c]
      by_cases c2 : j ≤ y
      · rw [if_pos (by omega), if_pos c2]
      · rw [if_neg (by omega), if_neg c2]
theorem S_resetV {value : Nat → Int32} {ν : Nat → Nat} (hv : VV value ν) (hF : 38 < F) : ∃ value', M_Search_countSolutions_L54 F F (12 : Int32) value = some value' ∧ VV value' (fun _ => 0) := by
  obtain ⟨v', e, h⟩ := S_reset (F := F) 26 12 F value rfl (Nat.le_refl 12) (by omega)
  refine ⟨v', e, fun m hm => ?_⟩
  rw [h m hm]
  have h1 := hv m hm
  unfold tn at *
  by_cases c : m < 12
  · rw [if_pos c] at h1
    rw [if_neg (by omega), if_pos c]
    exact h1
  · rw [if_pos (by omega), if_neg c]
    exact ⟨rfl, Nat.zero_le 12⟩
variable {P : AP} {s : Nat → Nat} {kind who width start : Nat → Int32}
/-- the solutions of rule r that tell number N -/
def AP.qs (P : AP) (r : Nat) (fa la : Nat → Int32) (N : Nat) (κ : Nat → Nat) : Prop := (∀ i, 1 ≤ i → i ≤ P.K r → P.sob r 0 fa la i κ = true) ∧ P.nn r 0 κ = N
/-- a rule's letters, each once -/
def AP.lets (P : AP) (r : Nat) (Ls : List Nat) : Prop := Ls.Nodup ∧ ∀ L, L ∈ Ls ↔ ∃ i, i ≤ P.K r ∧ P.le r i L = true
theorem S_countSol {fa fac fr frc la lac : Nat → Int32} (ok : P.ok) (sf : P.safe) (hc : PC P s kind who width term start) (hF : 100 < F) {r : Nat} (hr : r < P.R) {value plan : Nat → Int32} {planned x1 x2 x3 cnt sol : Int32} (hv : VV value (fun _ => 0)) (oa : FSok fa fac) (ol : FSok la lac) {dg : Nat → Nat} (hd : ∀ t, dg t < 12) {Ls : List Nat} (hL : P.lets r Ls) : ∃ value' plan' y1 y2 y3 y4 y5 y6, M_Search_countSolutions F value plan planned x1 x2 x3 cnt sol fa fac fr frc la lac kind who width term start (nI r) (nI (nmv dg (P.wd r 0))) = some (nI (cS Ls (fun _ => 0) (fun κ => ind (P.qs r fa la (nmv dg (P.wd r 0)) κ))), value', plan', y1, y2, y3, y4, y5, y6, fr, frc) ∧ VV value' (fun _ => 0) := by
  obtain ⟨e1, e2, h240, e⟩ := hc r hr
  obtain ⟨ek, ew, ewd, et⟩ := e 0 (Nat.zero_le _)
  obtain ⟨k5, -, w3, w2, p10, t38⟩ := (ok.2 r hr).2.2 0 (Nat.zero_le _)
  have k0 := (ok.2 r hr).2.1
  -- a head of N has N's digits
  have dig : ∀ κ, Ext Ls (fun _ => 0) κ → P.nn r 0 κ = nmv dg (P.wd r 0) → ∀ u, u < P.wd r 0 → tn κ (P.tm r 0 u) = dg u + 1 := fun κ hκ hn u hu => by
    have nz : ∀ u, u < P.wd r 0 → tn κ (P.tm r 0 u) ≠ 0 ∧ tn κ (P.tm r 0 u) ≤ 12 := fun u hu => by
      unfold tn
      by_cases c : P.tm r 0 u < 12
      · rw [if_pos c]; omega
      · rw [if_neg c]
        exact hκ.2 _ ((hL.2 _).mpr ⟨0, Nat.zero_le _, lett_iff.mpr ⟨u, hu, by omega⟩⟩)
    have := nmv_inj (fun t ht => by have := nz t ht; show tn κ (P.tm r 0 t) - 1 < 12; omega) (fun t _ => hd t) hn u hu
    have := nz u hu
    omega
  have none0 : (∀ κ, Ext Ls (fun _ => 0) κ → ¬ P.qs r fa la (nmv dg (P.wd r 0)) κ) → cS Ls (fun _ => 0) (fun κ => ind (P.qs r fa la (nmv dg (P.wd r 0)) κ)) = 0 := fun h => cS_zero (fun κ hκ => ind_f (h κ hκ))
  unfold M_Search_countSolutions
  rw [bd_e _ (S_open ok hc hr)]
  have hop := S_hopeless (F := F) (le := 0) ok hc hr (Nat.zero_le _) oa ol (by omega)
  rw [if_pos rfl] at hop
  rcases hop with h | ⟨h, i, i1, i2, i3, i4⟩
  · rw [bd_e _ h, if_pos rfl]
    have bl := S_bind_L (F := F) (h := s r) (w := P.wd r 0) (tm := P.tm r 0) (term := term) (by omega) w3 (fun t ht => ⟨et t ht, t38 t ht⟩) hd (P.wd r 0) F (fun _ => 0) value (Nat.le_refl _) (by omega) hv (fun u h1 h2 => by omega) (fun L hL => absurd rfl hL)
    have ewd : width (s r) = nI (P.wd r 0) := ewd
    have ey : nI (P.wd r 0) - (1 : Int32) = yv (P.wd r 0) := yv_m1 _
    rcases bl with ⟨v1, μ, b1, b2, b3, b4⟩ | ⟨v1, μ, b1, b2, b3⟩
    · have eb : M_Search_bindHead F value (nI (s r)) width term (nI (nmv dg (P.wd r 0))) = some (1, v1) := by
        unfold M_Search_bindHead
        rw [gd_n _ (show s r < 240 by omega) (by decide), lt_e, nI_clamp (show s r < 2 ^ 31 by omega), ewd, ey]
        exact bd_e (fun z10 => cs_ z10 (fun q11 => some ((1 : Int32), q11)) (fun o => some o)) b1
      obtain ⟨mk, em, hmk⟩ := PC_vars (F := F) ok hc (by omega) hr (Nat.zero_le _)
      have em : M_Program_variables F width term (nI (s r)) = some mk := em
      obtain ⟨plan', m, pl, e1, m5, hp, hall⟩ := S_makePlan (F := F) (le := 0) (plan := plan) (planned := planned) (x0 := mk) (B0 := P.le r 0) ok sf hc (by omega) hr (Nat.zero_le _) (fun z => absurd rfl z) hmk (fun L hL => by
        obtain ⟨u, u1, u2⟩ := lett_iff.mp hL
        have := t38 u u1
        omega)
      rw [if_pos rfl] at e1
      have hb0 : ∀ L, P.le r 0 L = true → μ L ≠ 0 := fun L hL => by
        obtain ⟨u, u1, u2⟩ := lett_iff.mp hL
        have := b3 u u1
        unfold tn at this
        rw [u2, if_neg (by omega), show 12 + L - 12 = L by omega] at this
        omega
      have hbB : ∀ L, (P.le r 0 L = true ∨ ∃ i, i < 0 ∧ P.le r (pl i) L = true) → μ L ≠ 0 := fun L hL => hL.elim (hb0 L) (fun ⟨i, h, _⟩ => absurd h (Nat.not_lt_zero _))
      have es := S_solve (F := F) (fa := fa) (la := la) (cnt := 1) (le := 0) ok sf hc hr (Nat.zero_le _) (by omega) m5 hp hall m 0 24 v1 μ (nI 0, fr, frc) (by omega) (by omega) b2 hbB
      rw [if_pos rfl, fold1, Nat.zero_add] at es
      have es : M_Search_solve F v1 plan' (nI m) (nI (s r)) (-1) (1 : Int32) (0 : Int32) fa fr frc la kind who width term (0 : Int32) = _ := es
      obtain ⟨v2, er, hv2⟩ := S_resetV (F := F) b2 (by omega)
      rw [bd_e _ eb, if_neg (show ¬ (1 : Int32) = 0 by decide), bd_e _ em, bd_e _ e1, bd_e _ es, bd_e _ er]
      have hlen : (P.sll r 0 fa la pl m 0 μ).length = cS Ls (fun _ => 0) (fun κ => ind (P.qs r fa la (nmv dg (P.wd r 0)) κ)) := by
        have hb : ∀ L, (fun L => decide (μ L ≠ 0)) L = true ↔ μ L ≠ 0 := fun L => decide_eq_true_iff
        rw [sll_len ok hr hp m 0 μ (fun L => decide (μ L ≠ 0)) (by omega) hb hbB]
        have hH : ∀ L, L ∈ ul (P.tm r 0) (P.wd r 0) 0 (fun _ => false) ↔ P.le r 0 L = true := fun L => by
          rw [ul_mem]
          refine ⟨fun ⟨_, u, _, h1, h2⟩ => lett_iff.mpr ⟨u, by omega, h2⟩, fun h => ?_⟩
          obtain ⟨u, u1, u2⟩ := lett_iff.mp h
          exact ⟨rfl, u, Nat.zero_le _, by omega, u2⟩
        have hdis : ∀ L, P.le r 0 L = true → ¬ L ∈ P.uls r pl m 0 (fun L => decide (μ L ≠ 0)) := fun L h1 h2 => by
          have : decide (μ L ≠ 0) = false := (uls_mem.mp h2).1
          exact absurd (hb0 L h1) (of_decide_eq_false this)
        have perm : Ls.Perm (ul (P.tm r 0) (P.wd r 0) 0 (fun _ => false) ++ P.uls r pl m 0 (fun L => decide (μ L ≠ 0))) := by
          refine (List.perm_ext_iff_of_nodup hL.1 (List.nodup_append.mpr ⟨ul_nodup, uls_nodup, fun x hx y hy z => ?_⟩)).mpr (fun L => ?_)
          · subst z; exact hdis x ((hH x).mp hx) hy
          · rw [hL.2, List.mem_append, hH, uls_mem]
            constructor
            · rintro ⟨i, h1, h2⟩
              cases h3 : P.le r 0 L with
              | true => exact Or.inl rfl
              | false =>
                have hi : i ≠ 0 := fun z => by rw [z, h3] at h2; exact absurd h2 (by decide)
                obtain ⟨q, q1, q2⟩ := hall i (by omega) h1
                refine Or.inr ⟨?_, q, Nat.zero_le _, by omega, by rw [q2]; exact h2⟩
                refine decide_eq_false (fun z => ?_)
                obtain ⟨u, u1, u2⟩ := b4 L z
                have : P.le r 0 L = true := lett_iff.mpr ⟨u, u1, u2⟩
                rw [h3] at this
                exact absurd this (by decide)
            · rintro (h | ⟨_, q, _, h2, h3⟩)
              · exact ⟨0, Nat.zero_le _, h⟩
              · exact ⟨pl q, (hp.1 q (by omega)).2.2, h3⟩
        rw [cS_perm perm, cS_append]
        -- behind the head's letters
        have keep : ∀ κ μ', Ext (P.uls r pl m 0 (fun L => decide (μ L ≠ 0))) κ μ' → ∀ L, P.le r 0 L = true → μ' L = κ L := fun κ μ' h L h1 => h.1 L (hdis L h1)
        have ext0 : ∀ κ μ', Ext (ul (P.tm r 0) (P.wd r 0) 0 (fun _ => false)) (fun _ => 0) κ → Ext (P.uls r pl m 0 (fun L => decide (μ L ≠ 0))) κ μ' → Ext Ls (fun _ => 0) μ' := fun κ μ' h1 h2 => by
          refine ⟨fun L h3 => ?_, fun L h3 => ?_⟩
          · have h4 : ¬ (L ∈ ul (P.tm r 0) (P.wd r 0) 0 (fun _ => false) ∨ L ∈ P.uls r pl m 0 (fun L => decide (μ L ≠ 0))) := fun z => h3 (perm.mem_iff.mpr (List.mem_append.mpr z))
            rw [h2.1 L (fun z => h4 (Or.inr z)), h1.1 L (fun z => h4 (Or.inl z))]
          · rcases List.mem_append.mp (perm.mem_iff.mp h3) with z | z
            · rw [h2.1 L (hdis L ((hH L).mp z))]
              exact h1.2 L z
            · exact h2.2 L z
        have mu0 : Ext (ul (P.tm r 0) (P.wd r 0) 0 (fun _ => false)) (fun _ => 0) μ := by
          refine ⟨fun L h1 => ?_, fun L h1 => ⟨hb0 L ((hH L).mp h1), ?_⟩⟩
          · refine Classical.byContradiction (fun z => h1 ((hH L).mpr ?_))
            obtain ⟨u, u1, u2⟩ := b4 L z
            exact lett_iff.mpr ⟨u, u1, u2⟩
          · obtain ⟨u, u1, u2⟩ := lett_iff.mp ((hH L).mp h1)
            have := b3 u u1
            unfold tn at this
            rw [u2, if_neg (by omega), show 12 + L - 12 = L by omega] at this
            have := hd u
            omega
        rw [cS_point (μ := μ) ul_nodup mu0 (fun κ h1 h2 => cS_zero (fun μ' h3 => ind_f (fun hq => h2 ?_)))]
        · refine cS_congr (fun μ' h3 => ind_congr ⟨fun h => ⟨fun i i1 i2 => ?_, ?_⟩, fun h q _ h2 => h.1 _ (hp.1 q h2).2.1 (hp.1 q h2).2.2⟩)
          · obtain ⟨q, q1, q2⟩ := hall i i1 i2
            rw [← q2]
            exact h q (Nat.zero_le _) q1
          · refine nmv_congr (fun u hu => ?_)
            have : tn μ' (P.tm r 0 u) = tn μ (P.tm r 0 u) := by
              unfold tn
              by_cases c : P.tm r 0 u < 12
              · rw [if_pos c, if_pos c]
              · rw [if_neg c, if_neg c]
                exact keep μ μ' h3 _ (lett_iff.mpr ⟨u, hu, by omega⟩)
            rw [this, b3 u hu]
            rfl
        · funext L
          have hdg := dig μ' (ext0 κ μ' h1 h3) hq.2
          by_cases c : P.le r 0 L = true
          · obtain ⟨u, u1, u2⟩ := lett_iff.mp c
            have k1 := hdg u u1
            have k2 := b3 u u1
            unfold tn at k1 k2
            rw [u2, if_neg (by omega), show 12 + L - 12 = L by omega] at k1 k2
            rw [keep κ μ' h3 L c] at k1
            omega
          · rw [h1.1 L (fun z => c ((hH L).mp z)), mu0.1 L (fun z => c ((hH L).mp z))]
      rw [hlen]
      exact ⟨_, _, _, _, _, _, _, _, rfl, hv2⟩
    · have eb : M_Search_bindHead F value (nI (s r)) width term (nI (nmv dg (P.wd r 0))) = some (0, v1) := by
        unfold M_Search_bindHead
        rw [gd_n _ (show s r < 240 by omega) (by decide), lt_e, nI_clamp (show s r < 2 ^ 31 by omega), ewd, ey]
        exact bd_e (fun z10 => cs_ z10 (fun q11 => some ((1 : Int32), q11)) (fun o => some o)) b1
      obtain ⟨v2, er, hv2⟩ := S_resetV (F := F) b2 (by omega)
      rw [bd_e _ eb, if_pos rfl, bd_e _ er, none0 (fun κ hκ hq => b3 ⟨κ, dig κ hκ hq.2⟩)]
      exact ⟨_, _, _, _, _, _, _, _, rfl, hv2⟩
  · obtain ⟨v2, er, hv2⟩ := S_resetV (F := F) hv (by omega)
    rw [bd_e _ h, if_neg (by decide), bd_e _ er, none0 (fun κ hκ hq => by
      have := hq.1 i i1 i2
      unfold AP.sob AP.nn at this
      rw [if_pos i3, i4 _ (nmv_lt3 ((ok.2 r hr).2.2 i i2).2.2.1 (fun t ht => ?_))] at this
      · exact absurd this (by decide)
      · have : tn κ (P.tm r i t) ≤ 12 ∧ tn κ (P.tm r i t) ≠ 0 := by
          unfold tn
          by_cases c : P.tm r i t < 12
          · rw [if_pos c]; omega
          · rw [if_neg c]
            exact (hκ.2 _ ((hL.2 _).mpr ⟨i, i2, lett_iff.mpr ⟨t, ht, by omega⟩⟩)).symm
        show tn κ (P.tm r i t) - 1 < 12
        omega)]
    exact ⟨_, _, _, _, _, _, _, _, rfl, hv2⟩
end
