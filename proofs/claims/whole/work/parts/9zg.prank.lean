/-! strata -/
def CnP (P : AP) (h q w : Nat) : Prop := ∃ r, r < P.R ∧ P.pd r 0 = h ∧ ∃ i, 1 ≤ i ∧ i ≤ P.K r ∧ P.kd r i ≤ 2 ∧ P.pd r i = q ∧ w = (if P.kd r i = 2 then 1 else 0)
/-- W suits all rules -/
def pfx (P : AP) (W : Nat → Nat) : Prop := ∀ h q w, CnP P h q w → W q + w ≤ W h
/-- from V to V': raised, and no further than needed -/
def RG (P : AP) (V V' : Nat → Nat) : Prop := (∀ p, V p ≤ V' p) ∧ ∀ W : Nat → Nat, pfx P W → (∀ p, V p ≤ W p) → ∀ p, V' p ≤ W p
theorem RG.refl {P : AP} {V : Nat → Nat} : RG P V V := ⟨fun _ => Nat.le_refl _, fun W _ h => h⟩
theorem RG.trans {P : AP} {V W Z : Nat → Nat} (a : RG P V W) (b : RG P W Z) : RG P V Z := ⟨fun p => Nat.le_trans (a.1 p) (b.1 p), fun U h1 h2 => b.2 U h1 (a.2 U h1 h2)⟩
def mx (V : Nat → Nat) (h x : Nat) : Nat → Nat := fun p => if p = h ∧ V h < x then x else V p
theorem RG_mx {P : AP} {V : Nat → Nat} {h q w : Nat} (hc : CnP P h q w) : RG P V (mx V h (V q + w)) := by
  refine ⟨fun p => ?_, fun W h1 h2 p => ?_⟩
  · show V p ≤ if p = h ∧ V h < V q + w then V q + w else V p
    split
    · rename_i z; rw [z.1]; omega
    · exact Nat.le_refl _
  · show (if p = h ∧ V h < V q + w then V q + w else V p) ≤ W p
    split
    · rename_i z
      have := h1 h q w hc
      have := h2 q
      rw [z.1]; omega
    · exact h2 p
theorem mx_ge {V : Nat → Nat} {h x : Nat} : x ≤ mx V h x h := by
  show x ≤ if h = h ∧ V h < x then x else V h
  by_cases c : V h < x
  · rw [if_pos ⟨rfl, c⟩]; exact Nat.le_refl _
  · rw [if_neg (fun z => c z.2)]; omega
theorem upd_mx {row : Nat → Int32} {V : Nat → Nat} {h x : Nat} (hr : ∀ p, p < 10 → row p = nI (V p)) (c : V h < x) : ∀ p, p < 10 → (upd row h (nI x)) p = nI (mx V h x p) := fun p hp => by
  show _ = nI (if p = h ∧ V h < x then x else V p)
  by_cases e : p = h
  · rw [e, pk_us, if_pos ⟨rfl, c⟩]
  · rw [pk_un e, if_neg (fun z => e z.1)]; exact hr p hp
theorem mx_no {V : Nat → Nat} {h x : Nat} (c : ¬ V h < x) : mx V h x = V := by
  funext p
  exact if_neg (fun z => c z.2)
section
variable {F : Nat} {P : AP} {s : Nat → Nat} {kind who width term start : Nat → Int32} {W0 : Nat → Nat}
/-- the class raises a rule's head -/
theorem S_raise_L (ok : P.ok) (hc : PC P s kind who width term start) (hW : pfx P W0) (hW10 : ∀ p, W0 p ≤ 10) {r : Nat} (hr : r < P.R) : ∀ (d i f : Nat) (row : Nat → Int32) (V : Nat → Nat), i + d = P.K r + 1 → 1 ≤ i → d < f → (∀ p, p < 10 → row p = nI (V p)) → (∀ p, V p ≤ W0 p) → ∃ row' V', M_Program_raiseHead_L21 F kind who start (nI (P.pd r 0)) (nI r) f (nI (s r + i)) row = some row' ∧ (∀ p, p < 10 → row' p = nI (V' p)) ∧ RG P V V' ∧ ∀ x, i ≤ x → x ≤ P.K r → P.kd r x ≤ 2 → V (P.pd r x) + (if P.kd r x = 2 then 1 else 0) ≤ V' (P.pd r 0)
  | 0, i, f, row, V, hi, h1, hf, hrow, hV => by
    obtain ⟨f, rfl⟩ : ∃ m, f = m + 1 := ⟨f - 1, by omega⟩
    obtain ⟨-, e2, h240, -⟩ := hc r hr
    have r16 := ok.1
    unfold M_Program_raiseHead_L21
    rw [nI_1, gd_n _ (show r + 1 < 241 by omega) (by decide), lt_e, nI_clamp (show r + 1 < 2 ^ 31 by omega), e2, if_pos (nI_le (by omega) (by omega))]
    exact ⟨row, V, rfl, hrow, RG.refl, fun x x1 x2 => by omega⟩
  | d + 1, i, f, row, V, hi, h1, hf, hrow, hV => by
    obtain ⟨f, rfl⟩ : ∃ m, f = m + 1 := ⟨f - 1, by omega⟩
    obtain ⟨-, e2, h240, e⟩ := hc r hr
    have r16 := ok.1
    obtain ⟨k5, k1, w3, w2, p10, t38⟩ := (ok.2 r hr).2.2 i (by omega)
    obtain ⟨ek, ew, -, -⟩ := e i (by omega)
    have k0 := (ok.2 r hr).2.1
    have h10 := ((ok.2 r hr).2.2 0 (Nat.zero_le _)).2.2.2.2.1 (by omega)
    have ea := S_isAtom (kind := kind) (show s r + i < 240 by omega) k5 ek
    unfold M_Program_raiseHead_L21
    rw [nI_1 r, gd_n _ (show r + 1 < 241 by omega) (by decide), lt_e, nI_clamp (show r + 1 < 2 ^ 31 by omega), e2, if_neg (nI_ge (a := s r + i) (b := s r + P.K r + 1) (by omega) (by omega)), bd_e _ ea]
    by_cases ck : P.kd r i ≤ 2
    · have p10 := p10 ck
      have hcn : CnP P (P.pd r 0) (P.pd r i) (if P.kd r i = 2 then 1 else 0) := ⟨r, hr, rfl, i, h1, by omega, ck, rfl, rfl⟩
      have hq := hV (P.pd r i)
      have hq2 := hW10 (P.pd r i)
      have hh := hV (P.pd r 0)
      have hh2 := hW10 (P.pd r 0)
      rw [decide_eq_true ck, if_neg bI_t, gd_n _ (show s r + i < 240 by omega) (by decide), nI_clamp (show s r + i < 2 ^ 31 by omega), ew ck, gd_n _ p10 (by decide), lt_e, nI_clamp (show P.pd r i < 2 ^ 31 by omega), hrow _ p10, gd_n _ (show s r + i < 240 by omega) (by decide), ek]
      -- either way the same raise
      have go : ∀ (x : Nat) (v : Int32), x ≤ 11 → x = V (P.pd r i) + (if P.kd r i = 2 then 1 else 0) → v = nI x → ∃ row' V', (gd_ (nI (P.pd r 0)) 10 <| lt_ ((if (row (nI (P.pd r 0)).toNatClampNeg) < v then v else (row (nI (P.pd r 0)).toNatClampNeg))) fun v12 => gd_ (nI (P.pd r 0)) 10 <| lt_ (upd row (nI (P.pd r 0)).toNatClampNeg v12) fun f13 => lt_ (nI (s r + i) + (1 : Int32)) fun v14 => M_Program_raiseHead_L21 F kind who start (nI (P.pd r 0)) (nI r) f v14 f13) = some row' ∧ (∀ p, p < 10 → row' p = nI (V' p)) ∧ RG P V V' ∧ ∀ x, i ≤ x → x ≤ P.K r → P.kd r x ≤ 2 → V (P.pd r x) + (if P.kd r x = 2 then 1 else 0) ≤ V' (P.pd r 0) := fun x v hx ex ev => by
        rw [gd_n _ h10 (by decide), lt_e, gd_n _ h10 (by decide), lt_e, lt_e, nI_1, nI_clamp (show P.pd r 0 < 2 ^ 31 by omega), hrow _ h10, ev]
        have hg : RG P V (mx V (P.pd r 0) x) := by rw [ex]; exact RG_mx hcn
        have hrow' : ∀ p, p < 10 → (upd row (P.pd r 0) (if nI (V (P.pd r 0)) < nI x then nI x else nI (V (P.pd r 0)))) p = nI (mx V (P.pd r 0) x p) := fun p hp => by
          by_cases c : V (P.pd r 0) < x
          · rw [if_pos (nI_lt c (by omega))]
            exact upd_mx hrow c p hp
          · rw [if_neg (nI_nlt (by omega) (by omega)), mx_no c]
            by_cases e : p = P.pd r 0
            · rw [e, pk_us]
            · rw [pk_un e]; exact hrow p hp
        obtain ⟨row2, V2, g1, g2, g3, g4⟩ := S_raise_L ok hc hW hW10 hr d (i + 1) f _ (mx V (P.pd r 0) x) (by omega) (by omega) (by omega) hrow' (hg.2 W0 hW hV)
        refine ⟨row2, V2, g1, g2, hg.trans g3, fun y y1 y2 y3 => ?_⟩
        by_cases cy : y = i
        · subst cy
          rw [← ex]
          exact Nat.le_trans mx_ge (g3.1 _)
        · have := g4 y (by omega) y2 y3
          have := hg.1 (P.pd r y)
          omega
      by_cases c2 : P.kd r i = 2
      · rw [if_pos (show nI (P.kd r i) = (2 : Int32) by rw [c2]; rfl), lt_e]
        exact go (V (P.pd r i) + 1) _ (by omega) (by rw [if_pos c2]) (nI_1 _)
      · rw [if_neg (show ¬ nI (P.kd r i) = (2 : Int32) from fun z => c2 ((nI_eq (b := 2) (by omega) (by decide)).mp z)), lt_e]
        exact go (V (P.pd r i)) _ (by omega) (by rw [if_neg c2]; rfl) (by rw [Int32.add_zero])
    · rw [decide_eq_false ck, if_pos bI_f, lt_e, nI_1]
      obtain ⟨row2, V2, g1, g2, g3, g4⟩ := S_raise_L ok hc hW hW10 hr d (i + 1) f row V (by omega) (by omega) (by omega) hrow hV
      refine ⟨row2, V2, g1, g2, g3, fun y y1 y2 y3 => ?_⟩
      by_cases cy : y = i
      · subst cy; exact absurd y3 ck
      · exact g4 y (by omega) y2 y3
theorem S_rank45 (ok : P.ok) (hc : PC P s kind who width term start) (hF : 100 < F) (hW : pfx P W0) (hW10 : ∀ p, W0 p ≤ 10) : ∀ (d j f : Nat) (row : Nat → Int32) (V : Nat → Nat), j + d = P.R → d < f → (∀ p, p < 10 → row p = nI (V p)) → (∀ p, V p ≤ W0 p) → ∃ row' V', M_Program_rankStrata_L45 F kind who start (nI P.R) f (nI j) row = some row' ∧ (∀ p, p < 10 → row' p = nI (V' p)) ∧ RG P V V' ∧ ∀ r x, j ≤ r → r < P.R → 1 ≤ x → x ≤ P.K r → P.kd r x ≤ 2 → V (P.pd r x) + (if P.kd r x = 2 then 1 else 0) ≤ V' (P.pd r 0)
  | 0, j, f, row, V, hj, hf, hrow, hV => by
    obtain ⟨f, rfl⟩ : ∃ m, f = m + 1 := ⟨f - 1, by omega⟩
    have r16 := ok.1
    unfold M_Program_rankStrata_L45
    rw [if_pos (nI_le (by omega) (by omega))]
    exact ⟨row, V, rfl, hrow, RG.refl, fun r x r1 r2 => by omega⟩
  | d + 1, j, f, row, V, hj, hf, hrow, hV => by
    obtain ⟨f, rfl⟩ : ∃ m, f = m + 1 := ⟨f - 1, by omega⟩
    have r16 := ok.1
    have hjR : j < P.R := by omega
    obtain ⟨e1, e2, h240, e⟩ := hc j hjR
    have k0 := (ok.2 j hjR).2.1
    have k5 := (ok.2 j hjR).1
    have ew : who (s j) = nI (P.pd j 0) := (e 0 (Nat.zero_le _)).2.1 (by omega)
    obtain ⟨row1, V1, g1, g2, g3, g4⟩ := S_raise_L (F := F) ok hc hW hW10 hjR (P.K j) 1 F row V (by omega) (Nat.le_refl 1) (by omega) hrow hV
    have er : M_Program_raiseHead F kind who start row (nI j) = some row1 := by
      unfold M_Program_raiseHead
      rw [gd_n _ (show j < 241 by omega) (by decide), nI_clamp (show j < 2 ^ 31 by omega), e1, gd_n _ (show s j < 240 by omega) (by decide), lt_e, nI_clamp (show s j < 2 ^ 31 by omega), ew, gd_n _ (show j < 241 by omega) (by decide), lt_e, nI_1]
      exact bd_e (fun z15 => some z15) g1
    obtain ⟨row2, V2, k1, k2, k3, k4⟩ := S_rank45 ok hc hF hW hW10 d (j + 1) f row1 V1 (by omega) (by omega) g2 (g3.2 W0 hW hV)
    unfold M_Program_rankStrata_L45
    rw [if_neg (nI_ge (a := j) (b := P.R) hjR (by omega)), bd_e _ er, lt_e, nI_1]
    refine ⟨row2, V2, k1, k2, g3.trans k3, fun r x r1 r2 x1 x2 x3 => ?_⟩
    by_cases cr : r = j
    · subst cr
      exact Nat.le_trans (g4 x x1 x2 x3) (k3.1 _)
    · have := k4 r x (by omega) r2 x1 x2 x3
      have := g3.1 (P.pd r x)
      omega
/-- the least one is reached in ten passes -/
theorem settle {V0 V V' W : Nat → Nat} (hW : pfx P W) (hl : ∀ U, pfx P U → (∀ p, V0 p ≤ U p) → ∀ p, W p ≤ U p) (h0 : ∀ p, V0 p ≤ V p) (h1 : ∀ p, V p ≤ V' p) (h2 : ∀ p, V' p ≤ W p) (hs : ∀ h q w, CnP P h q w → V q + w ≤ V' h) {p0 : Nat} (hp : V p0 ≠ W p0) : ∃ p, V p ≠ W p ∧ V' p = W p := by
  refine Classical.byContradiction (fun hno => ?_)
  have lt : ∀ p, V p ≠ W p → V' p < W p := fun p hp => by
    have := h2 p
    have : V' p ≠ W p := fun z => hno ⟨p, hp, z⟩
    omega
  have hlt : ∀ p, V p ≠ W p → V p < W p := fun p hp => by have := lt p hp; have := h1 p; omega
  have := hl (fun p => @ite Nat (V p ≠ W p) (Classical.propDecidable _) (W p - 1) (W p)) (fun h q w hc => by
    show (@ite Nat (V q ≠ W q) (Classical.propDecidable _) (W q - 1) (W q)) + w ≤ (@ite Nat (V h ≠ W h) (Classical.propDecidable _) (W h - 1) (W h))
    have a1 := hW h q w hc
    have a2 := hs h q w hc
    by_cases ch : V h ≠ W h
    · have a3 := lt h ch
      rw [if_pos ch]
      by_cases cq : V q ≠ W q
      · have := hlt q cq
        rw [if_pos cq]; omega
      · have cq' : V q = W q := Classical.byContradiction cq
        rw [if_neg cq]; omega
    · rw [if_neg ch]
      by_cases cq : V q ≠ W q
      · rw [if_pos cq]; omega
      · rw [if_neg cq]; omega) (fun p => by
    show V0 p ≤ (@ite Nat (V p ≠ W p) (Classical.propDecidable _) (W p - 1) (W p))
    have := h0 p
    by_cases c : V p ≠ W p
    · have := hlt p c
      rw [if_pos c]; omega
    · have c' : V p = W p := Classical.byContradiction c
      rw [if_neg c]; omega) p0
  have h3 : W p0 ≤ (@ite Nat (V p0 ≠ W p0) (Classical.propDecidable _) (W p0 - 1) (W p0)) := this
  have := hlt p0 hp
  rw [if_pos hp] at h3
  omega
theorem S_rank37 (ok : P.ok) (hc : PC P s kind who width term start) (hF : 100 < F) {V0 W : Nat → Nat} (hW : pfx P W) (hW10 : ∀ p, W p ≤ 10) (hl : ∀ U, pfx P U → (∀ p, V0 p ≤ U p) → ∀ p, W p ≤ U p) (hout : ∀ p, 10 ≤ p → V0 p = W p) : ∀ (d k f : Nat) (row : Nat → Int32) (V : Nat → Nat), k + d = 10 → d < f → (∀ p, p < 10 → row p = nI (V p)) → RG P V0 V → (∀ p, V0 p ≤ W p) → k ≤ ct (fun p => decide (V p = W p)) 10 → ∃ row', M_Program_rankStrata_L37 F kind who start (nI P.R) f (nI k) row = some row' ∧ ∀ p, p < 10 → row' p = nI (W p)
  | 0, k, f, row, V, hk, hf, hrow, hg, hV0, hct => by
    obtain ⟨f, rfl⟩ : ∃ m, f = m + 1 := ⟨f - 1, by omega⟩
    have : k = 10 := by omega
    subst this
    unfold M_Program_rankStrata_L37
    rw [if_pos (by decide +kernel)]
    refine ⟨row, rfl, fun p hp => ?_⟩
    have := of_decide_eq_true (ct_full hct p hp)
    rw [hrow p hp, this]
  | d + 1, k, f, row, V, hk, hf, hrow, hg, hV0, hct => by
    obtain ⟨f, rfl⟩ : ∃ m, f = m + 1 := ⟨f - 1, by omega⟩
    have r16 := ok.1
    have hVW := hg.2 W hW hV0
    obtain ⟨row1, V1, g1, g2, g3, g4⟩ := S_rank45 (F := F) ok hc hF hW hW10 P.R 0 F row V (by omega) (by omega) hrow hVW
    have g1 : M_Program_rankStrata_L45 F kind who start (nI P.R) F (0 : Int32) row = some row1 := g1
    have hV1 := g3.2 W hW hVW
    have keep : ∀ p, V p = W p → V1 p = W p := fun p hp => by
      have := g3.1 p
      have := hV1 p
      omega
    have hct1 : k + 1 ≤ ct (fun p => decide (V1 p = W p)) 10 := by
      by_cases call : ∃ p, V p ≠ W p
      · obtain ⟨p0, hp0⟩ := call
        obtain ⟨p, h1, h2⟩ := settle hW hl hg.1 g3.1 hV1 (fun h q w ⟨r, hr, e1, i, i1, i2, i3, e2, e3⟩ => by
          rw [← e1, ← e2, e3]
          exact g4 r i (Nat.zero_le _) hr i1 i2 i3) hp0
        have hp10 : p < 10 := by
          refine Classical.byContradiction (fun z => h1 ?_)
          have := hg.1 p
          have := hVW p
          have := hout p (by omega)
          omega
        have := ct_more (f := fun p => decide (V p = W p)) (g := fun p => decide (V1 p = W p)) (k := p) (fun x hx => decide_eq_true (keep x (of_decide_eq_true hx))) (decide_eq_false h1) (decide_eq_true h2) hp10
        omega
      · have : ct (fun p => decide (V1 p = W p)) 10 = 10 := by
          have e : ct (fun p => decide (V1 p = W p)) 10 = ct (fun _ => true) 10 := ct_congr (fun p _ => decide_eq_true (keep p (Classical.byContradiction (fun z => call ⟨p, z⟩))))
          rw [e]; rfl
        omega
    unfold M_Program_rankStrata_L37
    rw [if_neg (show ¬ (10 : Int32) ≤ nI k from nI_ge (a := k) (b := 10) (by omega) (by decide)), bd_e _ g1, lt_e, nI_1]
    exact S_rank37 ok hc hF hW hW10 hl hout d (k + 1) f row1 V1 (by omega) (by omega) g2 (hg.trans g3) hV0 hct1
theorem S_rank2 {sort : Nat → Int32} {so : Nat → Nat} (hso : ∀ p, p < 10 → sort p = nI (so p) ∧ so p ≤ 2) : ∀ (d j f : Nat) (row : Nat → Int32), j + d = 10 → d < f → (∀ p, p < j → row p = nI (if so p = 2 then 1 else 0)) → ∃ row', M_Program_rankStrata_L2 F sort f (nI j) row = some row' ∧ ∀ p, p < 10 → row' p = nI (if so p = 2 then 1 else 0)
  | 0, j, f, row, hj, hf, h => by
    obtain ⟨f, rfl⟩ : ∃ m, f = m + 1 := ⟨f - 1, by omega⟩
    have : j = 10 := by omega
    subst this
    unfold M_Program_rankStrata_L2
    rw [if_pos (by decide +kernel)]
    exact ⟨row, rfl, h⟩
  | d + 1, j, f, row, hj, hf, h => by
    obtain ⟨f, rfl⟩ : ∃ m, f = m + 1 := ⟨f - 1, by omega⟩
    have hj2 : j < 10 := by omega
    obtain ⟨e, l⟩ := hso j hj2
    unfold M_Program_rankStrata_L2
    rw [if_neg (show ¬ (10 : Int32) ≤ nI j from nI_ge (a := j) (b := 10) hj2 (by decide)), gd_n _ hj2 (by decide), nI_clamp (show j < 2 ^ 31 by omega), e]
    have rec1 : ∀ x, x = nI (if so j = 2 then 1 else 0) → ∀ p, p < j + 1 → (upd row j x) p = nI (if so p = 2 then 1 else 0) := fun x hx p hp => by
      by_cases c : p = j
      · rw [c, pk_us, hx]
      · rw [pk_un c]; exact h p (by omega)
    by_cases c : so j = 2
    · rw [if_pos (show nI (so j) = (2 : Int32) by rw [c]; rfl), gd_n _ hj2 (by decide), lt_e, lt_e, nI_1]
      exact S_rank2 hso d (j + 1) f _ (by omega) (by omega) (rec1 1 (by rw [if_pos c]; rfl))
    · rw [if_neg (show ¬ nI (so j) = (2 : Int32) from fun z => c ((nI_eq (b := 2) (by omega) (by decide)).mp z)), gd_n _ hj2 (by decide), lt_e, lt_e, nI_1]
      exact S_rank2 hso d (j + 1) f _ (by omega) (by omega) (rec1 0 (by rw [if_neg c]; rfl))
end
