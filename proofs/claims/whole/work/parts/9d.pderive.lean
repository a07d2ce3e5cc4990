/-! the reference fills stratum after stratum -/
theorem ct_monoI {f g : Nat → Bool} (h : ∀ n, f n = true → g n = true) : ∀ N, ct f N ≤ ct g N
  | 0 => Nat.le_refl 0
  | n + 1 => by
    have := ct_monoI h n
    show ct f n + (if f n then 1 else 0) ≤ ct g n + (if g n then 1 else 0)
    cases hf : f n with
    | false => simp; omega
    | true => rw [h n hf]; simp; omega
theorem ct_more {f g : Nat → Bool} {k : Nat} (h : ∀ n, f n = true → g n = true) (hf : f k = false) (hg : g k = true) : ∀ {N : Nat}, k < N → ct f N < ct g N
  | 0, hk => absurd hk (Nat.not_lt_zero _)
  | n + 1, hk => by
    show ct f n + (if f n then 1 else 0) < ct g n + (if g n then 1 else 0)
    by_cases e : k = n
    · subst e
      have := ct_monoI h k
      rw [hf, hg]; simp; omega
    · have := ct_more h hf hg (show k < n by omega)
      cases hfn : f n with
      | false => simp; omega
      | true => rw [h n hfn]; simp; omega
/-- all facts there are -/
def tot (G : Nat → Nat → Bool) : Nat := ct (fun f => G (f / 1728) (f % 1728)) 17280
theorem tot_le (G : Nat → Nat → Bool) : tot G ≤ 17280 := ct_le _ _
theorem tot_lt {G H : Nat → Nat → Bool} (h : ∀ q k, G q k = true → H q k = true) {q k : Nat} (hq : q < 10) (hk : k < 1728) (h1 : G q k = false) (h2 : H q k = true) : tot G < tot H := by
  have e1 : (1728 * q + k) / 1728 = q := by omega
  have e2 : (1728 * q + k) % 1728 = k := by omega
  refine ct_more (k := 1728 * q + k) (fun n z => h _ _ z) ?_ ?_ (by omega)
  · show G ((1728 * q + k) / 1728) ((1728 * q + k) % 1728) = false
    rw [e1, e2]; exact h1
  · show H ((1728 * q + k) / 1728) ((1728 * q + k) % 1728) = true
    rw [e1, e2]; exact h2
theorem AP.so_tv {P : AP} {X N : Nat → Nat → Prop} {r i : Nat} {σ τ : Nat → Nat} (hw : 3 ≤ P.kd r i → P.wd r i = 2) (h : ∀ t, t < P.wd r i → tv σ (P.tm r i t) = tv τ (P.tm r i t)) (s : P.so X N r i σ) : P.so X N r i τ := by
  have e : P.nu r i σ = P.nu r i τ := nmv_congr h
  obtain ⟨s1, s2, s3⟩ := s
  refine ⟨fun z => e ▸ s1 z, fun z => e ▸ s2 z, fun z => ?_⟩
  have := s3 z
  rw [h 0 (show 0 < P.wd r i by rw [hw z]; decide), h 1 (show 1 < P.wd r i by rw [hw z]; decide)] at this
  exact this
theorem AP.fits_N {P : AP} {X N O : Nat → Nat → Prop} {r : Nat} {σ : Nat → Nat} (h : ∀ i, 1 ≤ i → i ≤ P.K r → P.kd r i = 2 → ∀ k, (O (P.pd r i) k ↔ N (P.pd r i) k)) (a : P.fits X N r σ) : P.fits X O r σ := fun i i1 i2 => ⟨(a i i1 i2).1, fun z y => (a i i1 i2).2.1 z ((h i i1 i2 z _).mp y), (a i i1 i2).2.2⟩
/-- the letters of the numbers -/
def AP.ixl (P : AP) (ix lx : Nat → Nat → Nat) : Prop := ∀ r, r < P.R → ∀ i, i ≤ P.K r → ∀ t, t < P.wd r i → 12 ≤ P.tm r i t → lx r (ix r (P.tm r i t - 12)) = P.tm r i t - 12
theorem AP.tv_lx {P : AP} {ix lx : Nat → Nat → Nat} (il : P.ixl ix lx) {r : Nat} (hr : r < P.R) {i t : Nat} (hi : i ≤ P.K r) (ht : t < P.wd r i) (σ : Nat → Nat) : tv (sg ix r (fun y => σ (lx r y))) (P.tm r i t) = tv σ (P.tm r i t) := by
  unfold tv
  by_cases c : P.tm r i t < 12
  · rw [if_pos c, if_pos c]
  · rw [if_neg c, if_neg c]
    exact congrArg σ (il r hr i hi t ht (by omega))
def GrM (P : AP) (M : Nat → Prop) (N : Nat → Nat → Prop) (G H : Nat → Nat → Bool) (f g : Int32) : Prop := (∀ q k, G q k = true → H q k = true) ∧ (∀ q k, ¬ M q → H q k = G q k) ∧ (g = 0 ∨ g = 1) ∧ (g = 0 → f = 0 ∧ H = G) ∧ (g = 1 → f = 1 ∨ ∃ q k, q < 10 ∧ k < 1728 ∧ G q k = false ∧ H q k = true) ∧ (∀ X : Nat → Nat → Prop, (∀ q k, G q k = true → X q k) → P.clo M N X → ∀ q k, H q k = true → X q k)
theorem GrM.refl {P : AP} {M : Nat → Prop} {N : Nat → Nat → Prop} {G : Nat → Nat → Bool} {f : Int32} (hf : f = 0 ∨ f = 1) : GrM P M N G G f f := ⟨fun _ _ h => h, fun _ _ _ => rfl, hf, fun h => ⟨h, rfl⟩, fun h => Or.inl h, fun X h _ q k z => h q k z⟩
theorem GrM.trans {P : AP} {M : Nat → Prop} {N : Nat → Nat → Prop} {G H J : Nat → Nat → Bool} {f g h : Int32} (a : GrM P M N G H f g) (b : GrM P M N H J g h) : GrM P M N G J f h := by
  obtain ⟨a1, a2, a3, a4, a5, a6⟩ := a
  obtain ⟨b1, b2, b3, b4, b5, b6⟩ := b
  refine ⟨fun q k z => b1 q k (a1 q k z), fun q k z => (b2 q k z).trans (a2 q k z), b3, fun z => ?_, fun z => ?_, fun X h1 h2 => b6 X (a6 X h1 h2) h2⟩
  · obtain ⟨c1, c2⟩ := b4 z
    obtain ⟨d1, d2⟩ := a4 c1
    exact ⟨d1, c2.trans d2⟩
  · rcases b5 z with c | ⟨q, k, c1, c2, c3, c4⟩
    · rcases a5 c with d | ⟨q, k, d1, d2, d3, d4⟩
      · exact Or.inl d
      · exact Or.inr ⟨q, k, d1, d2, d3, b1 q k d4⟩
    · refine Or.inr ⟨q, k, c1, c2, ?_, c4⟩
      cases hg : G q k with
      | false => rfl
      | true => rw [a1 q k hg] at c3; exact absurd c3 (by decide)
section
variable {F : Nat} {P : AP} {ix lx : Nat → Nat → Nat} {mv st : Nat → Nat} {pc ps pp pts termOf vc stratum : Nat → Int32}
theorem S_der84 (ok : P.ok) (io : P.ixo ix mv) (hm : RM P ix mv pc ps pp pts termOf vc) (hF : 24506 < F) (hst : P.str st) (hsr : ∀ p, p < 10 → stratum p = nI (st p)) (hs10 : ∀ p, st p ≤ 10) {s : Nat} (hs : s ≤ 10) {N : Nat → Nat → Prop} {count : Int32} : ∀ (d j n : Nat) (holds value : Nat → Int32) (fresh : Int32) (G : Nat → Nat → Bool), j + d = P.R → d < n → HB holds G → (∀ q k, ¬ st q = s → (N q k ↔ G q k = true)) → (fresh = 0 ∨ fresh = 1) → ∃ holds' value' fresh' G', M_Model_derive_L84 F (nI P.R) pc ps pp pts termOf vc stratum (-1) (nI s) n (nI j) holds value count fresh = some (holds', value', count, fresh') ∧ HB holds' G' ∧ GrM P (fun p => st p = s) N G G' fresh fresh' ∧ ∀ r, j ≤ r → r < P.R → st (P.pd r 0) = s → ∀ b, (∀ y, b y < 12) → P.fits (GP G) N r (sg ix r b) → G' (P.pd r 0) (P.nu r 0 (sg ix r b)) = true
  | 0, j, n, holds, value, fresh, G, hj, hn, hG, hN, hfr => by
    obtain ⟨n, rfl⟩ : ∃ m, n = m + 1 := ⟨n - 1, by omega⟩
    have r16 := ok.1
    unfold M_Model_derive_L84
    rw [if_pos (nI_le (by omega) (by omega))]
    exact ⟨_, _, _, _, rfl, hG, GrM.refl hfr, fun r h1 h2 => absurd h1 (by omega)⟩
  | d + 1, j, n, holds, value, fresh, G, hj, hn, hG, hN, hfr => by
    obtain ⟨n, rfl⟩ : ∃ m, n = m + 1 := ⟨n - 1, by omega⟩
    have r16 := ok.1
    have hjR : j < P.R := by omega
    have e6 : (6 : Int32) * nI j = nI (6 * j) := pk_mul 6 j
    obtain ⟨k5, k0, kk⟩ := ok.2 j hjR
    have p10 := (kk 0 (Nat.zero_le _)).2.2.2.2.1 (by omega)
    have ep := ((hm j hjR).2.2 0 (Nat.zero_le _)).2.1 (by omega)
    have ep : pp (6 * j) = nI (P.pd j 0) := ep
    unfold M_Model_derive_L84
    rw [if_neg (nI_ge (a := j) (b := P.R) hjR (by omega)), e6, gd_n _ (show 6 * j < 96 by omega) (by decide), lt_e, nI_clamp (show 6 * j < 2 ^ 31 by omega), ep, gd_n _ p10 (by decide), nI_clamp (show P.pd j 0 < 2 ^ 31 by omega), hsr _ p10]
    have h10 := hs10 (P.pd j 0)
    by_cases c : st (P.pd j 0) = s
    · have hneg : ∀ i, 1 ≤ i → i ≤ P.K j → P.kd j i = 2 → st (P.pd j i) < s := fun i i1 i2 z => c ▸ ((hst j hjR).2 i i1 i2).2 z
      obtain ⟨h1, v1, f1, G1, a1, a2, a3, a4⟩ := S_tryAll (N := GP G) (value := value) (count := count) ok io hm hF hjR (fun i i1 i2 z e => by have := hneg i i1 i2 z; rw [e, c] at this; omega) hG (fun q k _ => Iff.rfl) hfr
      have hNG : ∀ i, 1 ≤ i → i ≤ P.K j → P.kd j i = 2 → ∀ k, (N (P.pd j i) k ↔ GP G (P.pd j i) k) := fun i i1 i2 z k => hN _ _ (by have := hneg i i1 i2 z; omega)
      have g1 : GrM P (fun p => st p = s) N G G1 fresh f1 := ⟨a3.1, fun q k z => a3.2.1 q k (fun e => z (e ▸ c)), a3.2.2.1, a3.2.2.2.1, a3.2.2.2.2.1, fun X x1 x2 => a3.2.2.2.2.2 X x1 (fun σ hσ hf => x2 j σ hjR c hσ (AP.fits_N hNG hf))⟩
      obtain ⟨h2, v2, f2, G2, b1, b2, b3, b4⟩ := S_der84 ok io hm hF hst hsr hs10 hs (N := N) (count := count) d (j + 1) n h1 v1 f1 G1 (by omega) (by omega) a2 (fun q k z => by rw [g1.2.1 q k z]; exact hN q k z) g1.2.2.1
      rw [if_pos (congrArg nI c), bd_e _ a1, lt_e, nI_1]
      refine ⟨h2, v2, f2, G2, b1, b2, g1.trans b3, fun r r1 r2 r3 b hb hf => ?_⟩
      by_cases e : r = j
      · subst e
        exact b3.1 _ _ (a4 b hb (AP.fits_N (fun i i1 i2 z k => (hNG i i1 i2 z k).symm) hf))
      · exact b4 r (by omega) r2 r3 b hb (AP.fits_mono g1.1 hf)
    · obtain ⟨h2, v2, f2, G2, b1, b2, b3, b4⟩ := S_der84 ok io hm hF hst hsr hs10 hs (N := N) (count := count) d (j + 1) n holds value fresh G (by omega) (by omega) hG hN hfr
      rw [if_neg (fun z => c ((nI_eq (by omega) (by omega)).mp z)), lt_e, nI_1]
      refine ⟨h2, v2, f2, G2, b1, b2, b3, fun r r1 r2 r3 b hb hf => ?_⟩
      by_cases e : r = j
      · subst e; exact absurd r3 c
      · exact b4 r (by omega) r2 r3 b hb hf
theorem S_der70 (ok : P.ok) (io : P.ixo ix mv) (hm : RM P ix mv pc ps pp pts termOf vc) (hF : 24506 < F) (hst : P.str st) (hsr : ∀ p, p < 10 → stratum p = nI (st p)) (hs10 : ∀ p, st p ≤ 10) {s : Nat} (hs : s ≤ 10) {N : Nat → Nat → Prop} {count : Int32} : ∀ (d n : Nat) (holds value : Nat → Int32) (G : Nat → Nat → Bool), tot G + d = 17280 → d + 1 < n → HB holds G → (∀ q k, ¬ st q = s → (N q k ↔ G q k = true)) → ∃ holds' value' G', M_Model_derive_L70 F (nI P.R) pc ps pp pts termOf vc stratum (-1) (nI s) n holds value count 1 = some (holds', value', count, 0) ∧ HB holds' G' ∧ (∀ q k, G q k = true → G' q k = true) ∧ (∀ q k, ¬ st q = s → G' q k = G q k) ∧ (∀ X : Nat → Nat → Prop, (∀ q k, G q k = true → X q k) → P.clo (fun p => st p = s) N X → ∀ q k, G' q k = true → X q k) ∧ ∀ r, r < P.R → st (P.pd r 0) = s → ∀ b, (∀ y, b y < 12) → P.fits (GP G') N r (sg ix r b) → G' (P.pd r 0) (P.nu r 0 (sg ix r b)) = true := fun d => by
  induction d using Nat.strongRecOn with
  | ind d ih =>
    intro n holds value G hd hn hG hN
    obtain ⟨n, rfl⟩ : ∃ m, n = m + 1 := ⟨n - 1, by omega⟩
    obtain ⟨h1, v1, f1, G1, a1, a2, a3, a4⟩ := S_der84 (F := F) ok io hm hF hst hsr hs10 hs (N := N) (count := count) P.R 0 F holds value 0 G (by omega) (by have := ok.1; omega) hG hN (Or.inl rfl)
    have a1 : M_Model_derive_L84 F (nI P.R) pc ps pp pts termOf vc stratum (-1) (nI s) F (0 : Int32) holds value count 0 = some (h1, v1, count, f1) := a1
    unfold M_Model_derive_L70
    rw [if_neg (by decide), bd_e _ a1]
    rcases a3.2.2.1 with f0 | f0
    · obtain ⟨-, eG⟩ := a3.2.2.2.1 f0
      subst eG
      subst f0
      obtain ⟨n, rfl⟩ : ∃ m, n = m + 1 := ⟨n - 1, by omega⟩
      show ∃ holds' value' G', M_Model_derive_L70 F (nI P.R) pc ps pp pts termOf vc stratum (-1) (nI s) (n + 1) h1 v1 count 0 = some (holds', value', count, 0) ∧ _
      unfold M_Model_derive_L70
      rw [if_pos rfl]
      exact ⟨h1, v1, G1, rfl, a2, fun _ _ z => z, fun _ _ _ => rfl, fun X x1 _ => x1, fun r r1 r2 b hb hf => a4 r (Nat.zero_le _) r1 r2 b hb hf⟩
    · subst f0
      rcases a3.2.2.2.2.1 rfl with z | ⟨q, k, z1, z2, z3, z4⟩
      · exact absurd z (by decide)
      · have t1 := tot_lt a3.1 z1 z2 z3 z4
        have t2 := tot_le G1
        obtain ⟨h2, v2, G2, b1, b2, b3, b4, b5, b6⟩ := ih (17280 - tot G1) (by omega) n h1 v1 G1 (by omega) (by omega) a2 (fun q k z => by rw [a3.2.1 q k z]; exact hN q k z)
        exact ⟨h2, v2, G2, b1, b2, fun q k z => b3 q k (a3.1 q k z), fun q k z => (b4 q k z).trans (a3.2.1 q k z), fun X x1 x2 => b5 X (a3.2.2.2.2.2 X x1 x2) x2, b6⟩
/-- one stratum: just what follows -/
theorem S_der70d (ok : P.ok) (io : P.ixo ix mv) (il : P.ixl ix lx) (hm : RM P ix mv pc ps pp pts termOf vc) (hF : 24506 < F) (hst : P.str st) (hsr : ∀ p, p < 10 → stratum p = nI (st p)) (hs10 : ∀ p, st p ≤ 10) {s : Nat} (hs : s ≤ 10) {count : Int32} {holds value : Nat → Int32} {G : Nat → Nat → Bool} (hG : HB holds G) : ∃ holds' value' G', M_Model_derive_L70 F (nI P.R) pc ps pp pts termOf vc stratum (-1) (nI s) F holds value count 1 = some (holds', value', count, 0) ∧ HB holds' G' ∧ ∀ q k, G' q k = true ↔ P.der (fun p => st p = s) (GP G) q k := by
  obtain ⟨h1, v1, G1, a1, a2, a3, a4, a5, a6⟩ := S_der70 (F := F) (N := GP G) (count := count) ok io hm hF hst hsr hs10 hs (17280 - tot G) F holds value G (by have := tot_le G; omega) (by omega) hG (fun _ _ _ => Iff.rfl)
  refine ⟨h1, v1, G1, a1, a2, fun q k => ⟨a5 _ (fun q k z => AP.der_base z) AP.der_clo q k, fun z => ?_⟩⟩
  refine z (GP G1) a3 (fun r σ hr hM hσ hf => ?_)
  have w := fun i (i2 : i ≤ P.K r) => ((ok.2 r hr).2.2 i i2).2.2.2.1
  have := a6 r hr hM (fun y => σ (lx r y)) (fun y => hσ _) (fun i i1 i2 => AP.so_tv (w i i2) (fun t ht => (AP.tv_lx il hr i2 ht σ).symm) (hf i i1 i2))
  have e : P.nu r 0 (sg ix r (fun y => σ (lx r y))) = P.nu r 0 σ := nmv_congr (fun t ht => AP.tv_lx il hr (Nat.zero_le _) ht σ)
  rw [e] at this
  exact this
theorem S_der59 (ok : P.ok) (io : P.ixo ix mv) (il : P.ixl ix lx) (hm : RM P ix mv pc ps pp pts termOf vc) (hF : 24506 < F) (hst : P.str st) (hsr : ∀ p, p < 10 → stratum p = nI (st p)) (hs10 : ∀ p, st p ≤ 10) {count : Int32} {B : Nat → Nat → Prop} : ∀ (d s n : Nat) (holds value : Nat → Int32) (fresh : Int32) (G : Nat → Nat → Bool), s + d = 10 → d < n → HB holds G → (∀ q k, G q k = true ↔ P.lay st B s q k) → ∃ holds' value' fresh' G', M_Model_derive_L59 F (nI P.R) pc ps pp pts termOf vc stratum (-1) n (nI (s + 1)) holds value count fresh = some (holds', value', count, fresh') ∧ HB holds' G' ∧ ∀ q k, G' q k = true ↔ P.lay st B 10 q k
  | 0, s, n, holds, value, fresh, G, hj, hn, hG, hB => by
    obtain ⟨n, rfl⟩ : ∃ m, n = m + 1 := ⟨n - 1, by omega⟩
    have : s = 10 := by omega
    subst this
    unfold M_Model_derive_L59
    rw [if_pos (by decide +kernel)]
    exact ⟨_, _, _, _, rfl, hG, hB⟩
  | d + 1, s, n, holds, value, fresh, G, hj, hn, hG, hB => by
    obtain ⟨n, rfl⟩ : ∃ m, n = m + 1 := ⟨n - 1, by omega⟩
    obtain ⟨h1, v1, G1, a1, a2, a3⟩ := S_der70d (F := F) (count := count) (value := value) (s := s + 1) ok io il hm hF hst hsr hs10 (by omega) hG
    have eG : GP G = P.lay st B s := by
      funext q k
      exact propext (hB q k)
    rw [eG] at a3
    obtain ⟨h2, v2, f2, G2, b1, b2, b3⟩ := S_der59 ok io il hm hF hst hsr hs10 (count := count) (B := B) d (s + 1) n h1 v1 0 G1 (by omega) (by omega) a2 a3
    unfold M_Model_derive_L59
    rw [if_neg (show ¬ (10 : Int32) < nI (s + 1) from nI_nlt (a := 10) (b := s + 1) (by omega) (by omega)), bd_e _ a1, lt_e, nI_1]
    exact ⟨h2, v2, f2, G2, b1, b2, b3⟩
end
section
variable {F : Nat} {P : AP} {ix lx : Nat → Nat → Nat} {mv st : Nat → Nat} {pc ps pp pts termOf vc stratum kind : Nat → Int32}
/-- the reference makes all that is DERIVED anew -/
theorem S_derive (ok : P.ok) (io : P.ixo ix mv) (il : P.ixl ix lx) (hm : RM P ix mv pc ps pp pts termOf vc) (hF : 24506 < F) (hst : P.str st) (hsr : ∀ p, p < 10 → stratum p = nI (st p)) (hs10 : ∀ p, st p ≤ 10) {count wanted fresh : Int32} {holds value : Nat → Int32} {G B : Nat → Nat → Bool} (hG : HB holds G) (hB : ∀ q k, q < 10 → k < 1728 → B q k = (G q k && !decide (kind q = 2))) : ∃ holds' value' fresh' H, M_Model_derive F (nI P.R) pc ps pp pts termOf vc kind stratum holds value wanted count fresh = some (holds', value', -1, count, fresh') ∧ HB holds' H ∧ ∀ q k, H q k = true ↔ P.lay st (GP B) 10 q k := by
  obtain ⟨h0, a1, a2⟩ := S_der2_L (F := F) (kind := kind) (by omega) 10 0 F holds rfl (by omega)
  have a1 : M_Model_derive_L2 F kind F (0 : Int32) holds = some h0 := a1
  have hG0 : HB h0 B := fun q k hq hk => by
    rw [a2 q k hq hk, hB q k hq hk, hG q k hq hk]
    by_cases c : kind q = 2
    · rw [if_pos ⟨Nat.zero_le q, c⟩]; simp [c, bI]
    · rw [if_neg (fun z => c z.2)]; simp [c]
  obtain ⟨h1, v1, f1, H, b1, b2, b3⟩ := S_der59 (F := F) (count := count) (B := GP B) ok io il hm hF hst hsr hs10 10 0 F h0 value fresh B rfl (by omega) hG0 (fun _ _ => Iff.rfl)
  have b1 : M_Model_derive_L59 F (nI P.R) pc ps pp pts termOf vc stratum (-1) F (1 : Int32) h0 value count fresh = some (h1, v1, count, f1) := b1
  unfold M_Model_derive
  rw [bd_e _ a1, bd_e _ b1]
  exact ⟨_, _, _, H, rfl, b2, b3⟩
end
