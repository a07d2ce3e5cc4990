/-! solve and tryTerm: all solutions are taken, in the list's order -/
theorem yv_p {x : Nat} (h : x ≠ 0) : yv x = nI (x - 1) := by
  obtain ⟨k, rfl⟩ : ∃ k, x = k + 1 := ⟨x - 1, by omega⟩
  rfl
theorem bnd_ne {ν : Nat → Nat} {m v L : Nat} (h : m = 12 + L ∨ ν L ≠ 0) : bnd ν m v L ≠ 0 := by
  show (if m = 12 + L then v + 1 else ν L) ≠ 0
  by_cases c : m = 12 + L
  · rw [if_pos c]; omega
  · rw [if_neg c]
    rcases h with h | h
    · exact absurd h c
    · exact h
section
variable {F : Nat} {P : AP} {s : Nat → Nat} {kind who width term start : Nat → Int32} {plan fa la : Nat → Int32} {cnt : Int32}
theorem PC_VC (ok : P.ok) (hc : PC P s kind who width term start) {r i : Nat} (hr : r < P.R) (hi : i ≤ P.K r) {value : Nat → Int32} {ν : Nat → Nat} (hv : VV value ν) (hb : ∀ L, P.le r i L = true → ν L ≠ 0) : VC value term (s r + i) (P.wd r i) (fun t => tn ν (P.tm r i t) - 1) := fun t ht => by
  obtain ⟨-, -, h240, e⟩ := hc r hr
  obtain ⟨-, -, -, et⟩ := e i hi
  obtain ⟨-, -, w3, -, -, t38⟩ := (ok.2 r hr).2.2 i hi
  obtain ⟨ev, h12⟩ := hv _ (t38 t ht)
  have hne : tn ν (P.tm r i t) ≠ 0 := by
    unfold tn
    by_cases c : P.tm r i t < 12
    · rw [if_pos c]; omega
    · rw [if_neg c]
      exact hb _ (lett_iff.mpr ⟨t, ht, by omega⟩)
  refine ⟨P.tm r i t, t38 t ht, et t ht, ?_, ?_⟩
  · rw [ev]; exact yv_p hne
  · show tn ν (P.tm r i t) - 1 < 12
    omega
theorem LE_iff {le i sr : Nat} (h1 : 1 ≤ i) (h : sr + i < 240) (hle : sr + le < 240) : nI (sr + i) = (if le = 0 then -1 else nI (sr + le)) ↔ i = le := by
  by_cases c : le = 0
  · rw [if_pos c]
    exact ⟨fun z => absurd z (nI_nm1 (by omega)), fun z => by omega⟩
  · rw [if_neg c, nI_eq (by omega) (by omega)]
    omega
theorem PC_so (ok : P.ok) (hc : PC P s kind who width term start) (hF : 3 < F) {r le i : Nat} (hr : r < P.R) (hle : le ≤ P.K r) (h1 : 1 ≤ i) (hi : i ≤ P.K r) {value : Nat → Int32} {ν : Nat → Nat} (hv : VV value ν) (hb : ∀ L, P.le r i L = true → ν L ≠ 0) : M_Search_isSo F value (if le = 0 then -1 else nI (s r + le)) fa la kind who width term (nI (s r + i)) = some (bI (P.sob r le fa la i ν)) := by
  have vc := PC_VC ok hc hr hi hv hb
  obtain ⟨-, -, h240, e⟩ := hc r hr
  obtain ⟨ek, ew, ewd, et⟩ := e i hi
  obtain ⟨k5, k1, w3, w2, p10, t38⟩ := (ok.2 r hr).2.2 i hi
  have k1 := k1 h1
  unfold AP.sob
  by_cases c1 : P.kd r i = 1
  · rw [if_pos c1, S_isSo1 (show s r + i < 240 by omega) w3 (p10 (by omega)) (by rw [ek, c1]) (ew (by omega)) ewd vc hF]
    unfold AP.src
    by_cases c : i = le
    · rw [if_pos c, if_pos ((LE_iff h1 (by omega) (by omega)).mpr c)]; rfl
    · rw [if_neg c, if_neg (fun z => c ((LE_iff h1 (by omega) (by omega)).mp z))]; rfl
  · rw [if_neg c1]
    unfold pt
    by_cases c2 : P.kd r i = 2
    · rw [if_neg c1, if_pos c2]
      exact S_isSo2 (show s r + i < 240 by omega) w3 (p10 (by omega)) (by rw [ek, c2]) (ew (by omega)) ewd vc hF
    · rw [if_neg c1, if_neg c2]
      rw [w2 (by omega)] at vc
      exact S_isSo3 (k := P.kd r i - 3) (show s r + i < 240 by omega) (by omega) (by rw [ek]; exact congrArg nI (by omega)) vc
/-- what a solution does -/
noncomputable def AP.op (P : AP) (r : Nat) (cnt : Int32) (fa : Nat → Int32) (st : Int32 × (Nat → Int32) × (Nat → Int32)) (ν : Nat → Nat) : Int32 × (Nat → Int32) × (Nat → Int32) := tk cnt fa (P.pd r 0) st (P.nn r 0 ν)
theorem S_terms (ok : P.ok) (hc : PC P s kind who width term start) {r le m j k : Nat} (hr : r < P.R) (hle : le ≤ P.K r) (hF : 13 < F) (hm5 : m ≤ 5) {pl : Nat → Nat} {B0 : Nat → Bool} (hp : P.pln s r B0 plan m pl) (hjm : j < m) (hk : P.kd r (pl j) = 1)
    (IH : ∀ (d : Nat) (value : Nat → Int32) (ν : Nat → Nat) (st : Int32 × (Nat → Int32) × (Nat → Int32)), 4 * k + 1 ≤ d → VV value ν → (∀ L, (B0 L = true ∨ ∃ i, i < j + 1 ∧ P.le r (pl i) L = true) → ν L ≠ 0) → (P_Search F plan (nI m) (nI (s r)) (if le = 0 then -1 else nI (s r + le)) cnt fa la kind who width term d).1 value st.1 st.2.1 st.2.2 (nI (j + 1)) = some (value, List.foldl (P.op r cnt fa) st (P.sll r le fa la pl k (j + 1) ν))) :
    ∀ (dd t pre d : Nat) (value : Nat → Int32) (ν : Nat → Nat) (st : Int32 × (Nat → Int32) × (Nat → Int32)), t + dd + 1 = P.wd r (pl j) → dd + 4 * k + 2 ≤ d → pre < 12 ^ t → VV value ν → (∀ L, (B0 L = true ∨ ∃ i, i < j ∧ P.le r (pl i) L = true) → ν L ≠ 0) → (∀ u, u < t → tn ν (P.tm r (pl j) u) ≠ 0) → (P_Search F plan (nI m) (nI (s r)) (if le = 0 then -1 else nI (s r + le)) cnt fa la kind who width term d).2 value st.1 st.2.1 st.2.2 (nI j) (nI t) (nI pre) = some (value, List.foldl (P.op r cnt fa) st (ttl (P.src r le fa la (pl j)) (P.tm r (pl j)) (P.sll r le fa la pl k (j + 1)) (dd + 1) t pre ν))
  | 0, t, pre, d, value, ν, st, ht, hd, hpre, hv, hb, hu => by
    obtain ⟨d, rfl⟩ : ∃ e, d = e + 1 := ⟨d - 1, by omega⟩
    obtain ⟨ep, i1, i2⟩ := hp.1 j hjm
    refine S_tryT (op := P.op r cnt fa) (cnt := cnt) (planned := nI m) ok hc hr hle hF i1 i2 hk (by omega) ep (by omega) hpre hv (fun v hv12 _ hs => if_neg (by rw [hs]; decide)) (fun v hv12 htn st => ⟨fun z => by omega, fun _ hs => ?_⟩)
    rw [if_pos hs]
    refine IH d _ _ st (by omega) (VV_bnd hv hv12 htn) (fun L hL => ?_)
    rcases hL with hL | ⟨i, hi, hL⟩
    · exact bnd_ne (Or.inr (hb L (Or.inl hL)))
    · by_cases e : i = j
      · subst e
        obtain ⟨u, u1, u2⟩ := lett_iff.mp hL
        by_cases e2 : u = t
        · subst e2; exact bnd_ne (Or.inl u2)
        · have := hu u (by omega)
          unfold tn at this
          rw [u2, if_neg (by omega), show 12 + L - 12 = L by omega] at this
          exact bnd_ne (Or.inr this)
      · exact bnd_ne (Or.inr (hb L (Or.inr ⟨i, by omega, hL⟩)))
  | dd + 1, t, pre, d, value, ν, st, ht, hd, hpre, hv, hb, hu => by
    obtain ⟨d, rfl⟩ : ∃ e, d = e + 1 := ⟨d - 1, by omega⟩
    obtain ⟨ep, i1, i2⟩ := hp.1 j hjm
    refine S_tryT (op := P.op r cnt fa) (cnt := cnt) (planned := nI m) ok hc hr hle hF i1 i2 hk (by omega) ep (by omega) hpre hv (fun v hv12 z => by omega) (fun v hv12 htn st => ⟨fun _ => ?_, fun z => by omega⟩)
    refine S_terms ok hc hr hle hF hm5 hp hjm hk IH dd (t + 1) (pre * 12 + v) d _ _ st (by omega) (by omega) (by rw [Nat.pow_succ]; omega) (VV_bnd hv hv12 htn) (fun L hL => bnd_ne (Or.inr (hb L hL))) (fun u h1 => ?_)
    by_cases e : P.tm r (pl j) u = P.tm r (pl j) t
    · rw [e, tn_bnd htn]; omega
    · rw [tn_bnd2 e]
      refine hu u ?_
      have : u ≠ t := fun z => e (by rw [z])
      omega
theorem S_solve (ok : P.ok) (sf : P.safe) (hc : PC P s kind who width term start) {r le m : Nat} (hr : r < P.R) (hle : le ≤ P.K r) (hF : 13 < F) (hm5 : m ≤ 5) {pl : Nat → Nat} {B0 : Nat → Bool} (hp : P.pln s r B0 plan m pl) (hall : ∀ i, 1 ≤ i → i ≤ P.K r → ∃ j, j < m ∧ pl j = i) :
    ∀ (k j d : Nat) (value : Nat → Int32) (ν : Nat → Nat) (st : Int32 × (Nat → Int32) × (Nat → Int32)), j + k = m → 4 * k + 1 ≤ d → VV value ν → (∀ L, (B0 L = true ∨ ∃ i, i < j ∧ P.le r (pl i) L = true) → ν L ≠ 0) → (P_Search F plan (nI m) (nI (s r)) (if le = 0 then -1 else nI (s r + le)) cnt fa la kind who width term d).1 value st.1 st.2.1 st.2.2 (nI j) = some (value, List.foldl (P.op r cnt fa) st (P.sll r le fa la pl k j ν))
  | 0, j, d, value, ν, st, hj, hd, hv, hb => by
    obtain ⟨d, rfl⟩ : ∃ e, d = e + 1 := ⟨d - 1, by omega⟩
    obtain ⟨-, -, h240, e⟩ := hc r hr
    obtain ⟨ek, ew, ewd, et⟩ := e 0 (Nat.zero_le _)
    obtain ⟨k5, -, w3, w2, p10, t38⟩ := (ok.2 r hr).2.2 0 (Nat.zero_le _)
    have k0 := (ok.2 r hr).2.1
    have hbh : ∀ L, P.le r 0 L = true → ν L ≠ 0 := fun L hL => by
      obtain ⟨i, i1, i2, i3, i4⟩ := sf r hr 0 (Nat.zero_le _) (by omega) L hL
      obtain ⟨q, q1, q2⟩ := hall i i1 i2
      exact hb L (Or.inr ⟨q, by omega, by rw [q2]; exact i4⟩)
    have vc := PC_VC ok hc hr (Nat.zero_le _) hv hbh
    have en := S_numberOf (F := F) (show s r + 0 < 240 by omega) w3 ewd vc (by omega)
    have en : M_Search_numberOf F value width term (nI (s r)) = _ := en
    have hn : nmv (fun t => tn ν (P.tm r 0 t) - 1) (P.wd r 0) < 1728 := nmv_lt3 w3 (fun t ht => by obtain ⟨x, -, -, -, y⟩ := vc t ht; exact y)
    have ew : who (s r) = nI (P.pd r 0) := ew (by omega)
    have et := S_tk (fa := fa) (cnt := cnt) (st := st) (show s r < 240 by omega) (p10 (by omega)) hn ew
    show B_Search_solve _ _ F plan (nI m) (nI (s r)) _ cnt fa la kind who width term value st.1 st.2.1 st.2.2 (nI j) = _
    unfold B_Search_solve
    rw [if_neg (nI_nlt (a := j) (b := m) (by omega) (by omega)), bd_e _ en, bd_e _ et]
    rfl
  | k + 1, j, d, value, ν, st, hj, hd, hv, hb => by
    obtain ⟨d, rfl⟩ : ∃ e, d = e + 1 := ⟨d - 1, by omega⟩
    obtain ⟨ep, i1, i2⟩ := hp.1 j (by omega)
    obtain ⟨-, -, h240, e⟩ := hc r hr
    obtain ⟨ek, ew, ewd, et⟩ := e (pl j) i2
    obtain ⟨k5, k1, w3, w2, p10, t38⟩ := (ok.2 r hr).2.2 (pl j) i2
    have IH : ∀ (d : Nat) (value : Nat → Int32) (ν : Nat → Nat) (st : Int32 × (Nat → Int32) × (Nat → Int32)), 4 * k + 1 ≤ d → VV value ν → (∀ L, (B0 L = true ∨ ∃ i, i < j + 1 ∧ P.le r (pl i) L = true) → ν L ≠ 0) → (P_Search F plan (nI m) (nI (s r)) (if le = 0 then -1 else nI (s r + le)) cnt fa la kind who width term d).1 value st.1 st.2.1 st.2.2 (nI (j + 1)) = some (value, List.foldl (P.op r cnt fa) st (P.sll r le fa la pl k (j + 1) ν)) := fun d value ν st h1 h2 h3 => S_solve ok sf hc hr hle hF hm5 hp hall k (j + 1) d value ν st (by omega) h1 h2 h3
    have test : (∀ L, P.le r (pl j) L = true → ν L ≠ 0) → (bd_ (M_Search_isSo F value (if le = 0 then -1 else nI (s r + le)) fa la kind who width term (nI (s r + pl j))) fun z2 => if z2 = 0 then (some (value, st.1, st.2.1, st.2.2)) else (bd_ ((P_Search F plan (nI m) (nI (s r)) (if le = 0 then -1 else nI (s r + le)) cnt fa la kind who width term d).1 value st.1 st.2.1 st.2.2 (nI j + (1 : Int32))) fun z3 => some (z3.1, z3.2.1, z3.2.2.1, z3.2.2.2))) = some (value, List.foldl (P.op r cnt fa) st (if P.sob r le fa la (pl j) ν then P.sll r le fa la pl k (j + 1) ν else [])) := fun hbl => by
      rw [bd_e _ (PC_so ok hc (by omega) hr hle i1 i2 hv hbl)]
      cases hs : P.sob r le fa la (pl j) ν with
      | false =>
        rw [if_pos bI_f]
        rfl
      | true =>
        rw [if_neg bI_t, nI_1, bd_e _ (IH d value ν st (by omega) hv (fun L hL => ?_))]
        · rfl
        · rcases hL with hL | ⟨i, hi, hL⟩
          · exact hb L (Or.inl hL)
          · by_cases e : i = j
            · subst e; exact hbl L hL
            · exact hb L (Or.inr ⟨i, by omega, hL⟩)
    show B_Search_solve _ _ F plan (nI m) (nI (s r)) _ cnt fa la kind who width term value st.1 st.2.1 st.2.2 (nI j) = some (value, List.foldl (P.op r cnt fa) st (if P.kd r (pl j) = 1 ∧ 0 < P.wd r (pl j) then ttl (P.src r le fa la (pl j)) (P.tm r (pl j)) (P.sll r le fa la pl k (j + 1)) (P.wd r (pl j)) 0 0 ν else if P.sob r le fa la (pl j) ν then P.sll r le fa la pl k (j + 1) ν else []))
    unfold B_Search_solve
    rw [if_pos (nI_lt (a := j) (b := m) (by omega) (by omega)), gd_n _ (show j < 5 by omega) (by decide), lt_e, nI_clamp (show j < 2 ^ 31 by omega), ep, gd_n _ (show s r + pl j < 240 by omega) (by decide), nI_clamp (show s r + pl j < 2 ^ 31 by omega), ek, ewd]
    by_cases c1 : P.kd r (pl j) = 1
    · rw [if_pos (show nI (P.kd r (pl j)) = (1 : Int32) by rw [c1]; rfl), gd_n _ (show s r + pl j < 240 by omega) (by decide)]
      by_cases c2 : 0 < P.wd r (pl j)
      · rw [if_neg (show ¬ nI (P.wd r (pl j)) ≤ (0 : Int32) from nI_nle (by omega) (by omega)), if_pos (show P.kd r (pl j) = 1 ∧ 0 < P.wd r (pl j) from ⟨c1, c2⟩)]
        obtain ⟨dd, hdd⟩ : ∃ dd, P.wd r (pl j) = dd + 1 := ⟨P.wd r (pl j) - 1, by omega⟩
        have t := S_terms ok hc hr hle hF hm5 hp (show j < m by omega) c1 IH dd 0 0 d value ν st (by omega) (by omega) (by decide) hv hb (fun u hu => absurd hu (Nat.not_lt_zero _))
        have t : (P_Search F plan (nI m) (nI (s r)) (if le = 0 then -1 else nI (s r + le)) cnt fa la kind who width term d).2 value st.1 st.2.1 st.2.2 (nI j) (0 : Int32) (0 : Int32) = _ := t
        rw [bd_e _ t, hdd]
      · rw [if_pos (show nI (P.wd r (pl j)) ≤ (0 : Int32) by rw [show P.wd r (pl j) = 0 by omega]; decide +kernel), if_neg (show ¬ (P.kd r (pl j) = 1 ∧ 0 < P.wd r (pl j)) from fun z => c2 z.2)]
        refine test (fun L hL => ?_)
        obtain ⟨u, u1, _⟩ := lett_iff.mp hL
        omega
    · rw [if_neg (show ¬ nI (P.kd r (pl j)) = (1 : Int32) from fun z => c1 ((nI_eq (a := P.kd r (pl j)) (b := 1) (by omega) (by decide)).mp z)), if_neg (show ¬ (P.kd r (pl j) = 1 ∧ 0 < P.wd r (pl j)) from fun z => c1 z.1)]
      exact test (fun L hL => hb L (hp.2 j (by omega) c1 L hL))
end
