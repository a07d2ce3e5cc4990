/-! the class' search: the list of its solutions -/
/-- a term's value and one, 0 if it has none -/
def tn (ν : Nat → Nat) (m : Nat) : Nat := if m < 12 then m + 1 else ν (m - 12)
def bnd (ν : Nat → Nat) (m v : Nat) : Nat → Nat := fun L => if m = 12 + L then v + 1 else ν L
def VV (value : Nat → Int32) (ν : Nat → Nat) : Prop := ∀ m, m < 38 → value m = yv (tn ν m) ∧ tn ν m ≤ 12
theorem tn_bnd {ν : Nat → Nat} {m v : Nat} (h : tn ν m = 0 ∨ tn ν m = v + 1) : tn (bnd ν m v) m = v + 1 := by
  unfold tn at *
  by_cases c : m < 12
  · rw [if_pos c] at *
    omega
  · rw [if_neg c] at *
    show (if m = 12 + (m - 12) then v + 1 else _) = v + 1
    rw [if_pos (by omega)]
theorem tn_bnd2 {ν : Nat → Nat} {m v k : Nat} (h : k ≠ m) : tn (bnd ν m v) k = tn ν k := by
  unfold tn
  by_cases c : k < 12
  · rw [if_pos c, if_pos c]
  · rw [if_neg c, if_neg c]
    show (if m = 12 + (k - 12) then v + 1 else ν (k - 12)) = ν (k - 12)
    rw [if_neg (by omega)]
theorem VV_bnd {value : Nat → Int32} {ν : Nat → Nat} {m v : Nat} (h : VV value ν) (hv : v < 12) (hm : tn ν m = 0 ∨ tn ν m = v + 1) : VV (upd value m (nI v)) (bnd ν m v) := fun k hk => by
  by_cases e : k = m
  · subst e
    rw [pk_us, tn_bnd hm]
    exact ⟨rfl, hv⟩
  · rw [pk_un e, tn_bnd2 e]
    exact h k hk
def vl {α : Type} (g : Nat → List α) : Nat → Nat → List α
  | 0, _ => []
  | d + 1, v => g v ++ vl g d (v + 1)
theorem vl_mem {α : Type} {g : Nat → List α} {x : α} : ∀ {d v : Nat}, x ∈ vl g d v ↔ ∃ u, v ≤ u ∧ u < v + d ∧ x ∈ g u
  | 0, v => ⟨fun h => absurd h List.not_mem_nil, fun ⟨u, h1, h2, _⟩ => by omega⟩
  | d + 1, v => by
    show x ∈ g v ++ vl g d (v + 1) ↔ _
    rw [List.mem_append, vl_mem]
    constructor
    · rintro (h | ⟨u, h1, h2, h3⟩)
      · exact ⟨v, Nat.le_refl v, by omega, h⟩
      · exact ⟨u, by omega, by omega, h3⟩
    · rintro ⟨u, h1, h2, h3⟩
      by_cases e : u = v
      · subst e; exact Or.inl h3
      · exact Or.inr ⟨u, by omega, by omega, h3⟩
theorem vl_nil {α : Type} {g : Nat → List α} : ∀ {d v : Nat}, (∀ u, v ≤ u → u < v + d → g u = []) → vl g d v = []
  | 0, _, _ => rfl
  | d + 1, v, h => by
    show g v ++ vl g d (v + 1) = []
    rw [h v (Nat.le_refl v) (by omega), vl_nil (fun u h1 h2 => h u (by omega) (by omega))]
    rfl
/-- the terms of an atom, one by one: d of them are left -/
def ttl (src : Nat → Bool) (tm : Nat → Nat) (rest : (Nat → Nat) → List (Nat → Nat)) : Nat → Nat → Nat → (Nat → Nat) → List (Nat → Nat)
  | 0, _, _, _ => []
  | 1, t, pre, ν => if tn ν (tm t) = 0 then vl (fun v => if src (pre * 12 + v) then rest (bnd ν (tm t) v) else []) 12 0 else vl (fun v => if src (pre * 12 + v) then rest (bnd ν (tm t) v) else []) 1 (tn ν (tm t) - 1)
  | d + 2, t, pre, ν => if tn ν (tm t) = 0 then vl (fun v => ttl src tm rest (d + 1) (t + 1) (pre * 12 + v) (bnd ν (tm t) v)) 12 0 else vl (fun v => ttl src tm rest (d + 1) (t + 1) (pre * 12 + v) (bnd ν (tm t) v)) 1 (tn ν (tm t) - 1)
/-- the facts a part looks at -/
def AP.src (P : AP) (r le : Nat) (fa la : Nat → Int32) (i n : Nat) : Bool := if i = le then fh la (P.pd r i) n else fh fa (P.pd r i) n
def AP.nn (P : AP) (r i : Nat) (ν : Nat → Nat) : Nat := nmv (fun t => tn ν (P.tm r i t) - 1) (P.wd r i)
def AP.sob (P : AP) (r le : Nat) (fa la : Nat → Int32) (i : Nat) (ν : Nat → Nat) : Bool := if P.kd r i = 1 then P.src r le fa la i (P.nn r i ν) else pt (fh fa) (P.kd r i) (P.pd r i) (P.wd r i) (fun t => tn ν (P.tm r i t) - 1)
def AP.sll (P : AP) (r le : Nat) (fa la : Nat → Int32) (pl : Nat → Nat) : Nat → Nat → (Nat → Nat) → List (Nat → Nat)
  | 0, _, ν => [ν]
  | k + 1, j, ν => if P.kd r (pl j) = 1 ∧ 0 < P.wd r (pl j) then ttl (P.src r le fa la (pl j)) (P.tm r (pl j)) (P.sll r le fa la pl k (j + 1)) (P.wd r (pl j)) 0 0 ν else if P.sob r le fa la (pl j) ν then P.sll r le fa la pl k (j + 1) ν else []
/-- one solution taken -/
noncomputable def tk (cnt : Int32) (fa : Nat → Int32) (p : Nat) (st : Int32 × (Nat → Int32) × (Nat → Int32)) (n : Nat) : Int32 × (Nat → Int32) × (Nat → Int32) := if cnt = 0 then (if fh fa p n then st else (st.1, if fh st.2.1 p n then (st.2.1, st.2.2) else (upd st.2.1 (144 * p + n / 12) (st.2.1 (144 * p + n / 12) ||| ((1 : Int32) <<< (nI (n % 12) &&& 31))), upd st.2.2 p (st.2.2 p + 1)))) else (st.1 + 1, st.2.1, st.2.2)
theorem S_tk {fa who : Nat → Int32} {h p n : Nat} {cnt : Int32} {st : Int32 × (Nat → Int32) × (Nat → Int32)} (hh : h < 240) (hp : p < 10) (hn : n < 1728) (ew : who h = nI p) : M_Search_takeSolution (nI h) cnt st.1 fa st.2.1 st.2.2 who (nI n) = some (tk cnt fa p st n) := by
  unfold M_Search_takeSolution tk
  by_cases c : cnt = 0
  · rw [if_pos c, if_pos c, gd_n _ hh (by decide), nI_clamp (show h < 2 ^ 31 by omega), ew, bd_e _ (S_has hp hn)]
    cases hf : fh fa p n with
    | true =>
      rw [if_neg bI_t, if_pos rfl]
    | false =>
      rw [if_pos bI_f, if_neg (by decide), gd_n _ hh (by decide), bd_e _ (S_add hp hn)]
  · rw [if_neg c, if_neg c, lt_e]
theorem upd_upd {f g : Nat → Int32} {k : Nat} {x : Int32} (h : ∀ y, y ≠ k → f y = g y) : upd f k x = upd g k x := by
  funext y
  by_cases e : y = k
  · subst e; rw [pk_us, pk_us]
  · rw [pk_un e, pk_un e, h y e]
theorem upd_same {f g : Nat → Int32} {k : Nat} (h : ∀ y, y ≠ k → f y = g y) : upd f k (g k) = g := by
  funext y
  by_cases e : y = k
  · subst e; rw [pk_us]
  · rw [pk_un e, h y e]
theorem shr_0 {x : Int32} {v : Nat} (hv : v < 32) (h : x >>> (nI v &&& 31) = 0) {u : Nat} (h1 : v ≤ u) (h2 : u < 32) : bt x u = false := by
  have := b_sshr v hv x (i := u - v) (by omega)
  rw [h, b_0, if_pos (by omega), show v + (u - v) = u by omega] at this
  exact this.symm
section
variable {F : Nat} {rs : (Nat → Int32) → (Int32) → (Nat → Int32) → (Nat → Int32) → Int32 → Option ((Nat → Int32) × (Int32) × (Nat → Int32) × (Nat → Int32))} {rt : (Nat → Int32) → (Int32) → (Nat → Int32) → (Nat → Int32) → Int32 → Int32 → Int32 → Option ((Nat → Int32) × (Int32) × (Nat → Int32) × (Nat → Int32))} {op : Int32 × (Nat → Int32) × (Nat → Int32) → (Nat → Nat) → Int32 × (Nat → Int32) × (Nat → Int32)}
/-- the constants of one term -/
theorem S_L122 {value : Nat → Int32} {hi m : Nat} {opts w5 w1 w2 w3 : Int32} {g : Nat → List (Nat → Nat)} (hm : m < 38) (hh : hi < 12) (hg : ∀ v, v ≤ hi → bt opts v = false → g v = [])
    (hin : ∀ v, v ≤ hi → bt opts v = true → ∀ st : Int32 × (Nat → Int32) × (Nat → Int32), (if w5 = 0 then rt (upd value m (nI v)) st.1 st.2.1 st.2.2 w1 (w2 + 1) (w3 * 12 + nI v) else rs (upd value m (nI v)) st.1 st.2.1 st.2.2 (w1 + 1)) = some (upd value m (nI v), List.foldl op st (g v))) :
    ∀ (d v n : Nat) (vc : Nat → Int32) (st : Int32 × (Nat → Int32) × (Nat → Int32)), v + d = hi + 1 → d < n → (∀ y, y ≠ m → vc y = value y) → ∃ vc', M_Search_tryTerm_L122 rs rt F (nI hi) (nI m) opts w5 w1 w2 w3 n (nI v) vc st.1 st.2.1 st.2.2 = some (vc', List.foldl op st (vl g d v)) ∧ ∀ y, y ≠ m → vc' y = value y
  | 0, v, n, vc, st, hv, hn, hc => by
    obtain ⟨n, rfl⟩ : ∃ m, n = m + 1 := ⟨n - 1, by omega⟩
    unfold M_Search_tryTerm_L122
    rw [if_pos (nI_lt (by omega) (by omega))]
    exact ⟨vc, rfl, hc⟩
  | d + 1, v, n, vc, st, hv, hn, hc => by
    obtain ⟨n, rfl⟩ : ∃ m, n = m + 1 := ⟨n - 1, by omega⟩
    unfold M_Search_tryTerm_L122
    rw [if_neg (nI_nlt (a := hi) (b := v) (by omega) (by omega))]
    by_cases c : opts >>> (nI v &&& 31) = 0
    · rw [if_pos c, vl_nil (fun u h1 h2 => hg u (by omega) (shr_0 (by omega) c h1 (by omega)))]
      exact ⟨vc, rfl, hc⟩
    · rw [if_neg c]
      by_cases c2 : bt opts v = false
      · rw [if_pos ((bt_ask opts (by omega)).mpr c2), lt_e, nI_1]
        obtain ⟨vc', e, h⟩ := S_L122 hm hh hg hin d (v + 1) n vc st (by omega) (by omega) hc
        refine ⟨vc', e.trans ?_, h⟩
        show _ = some (vc', List.foldl op st (g v ++ vl g d (v + 1)))
        rw [hg v (by omega) c2]
        rfl
      · have e1 : upd vc m (nI v) = upd value m (nI v) := upd_upd hc
        have hi1 := hin v (by omega) (by simpa using c2) st
        rw [if_neg (fun z => c2 ((bt_ask opts (by omega)).mp z)), gd_n _ hm (by decide), lt_e, nI_clamp (show m < 2 ^ 31 by omega), e1]
        obtain ⟨vc', e, h⟩ := S_L122 hm hh hg hin d (v + 1) n (upd value m (nI v)) (List.foldl op st (g v)) (by omega) (by omega) (fun y hy => pk_un hy)
        refine ⟨vc', ?_, h⟩
        show _ = some (vc', List.foldl op st (g v ++ vl g d (v + 1)))
        rw [List.foldl_append]
        by_cases c3 : w5 = 0
        · rw [if_pos c3] at hi1
          rw [if_pos c3, bd_e _ hi1, lt_e, nI_1]
          exact e
        · rw [if_neg c3] at hi1
          rw [if_neg c3, bd_e _ hi1, lt_e, nI_1]
          exact e
variable {P : AP} {s : Nat → Nat} {kind who width term start : Nat → Int32} {plan fa la : Nat → Int32} {planned cnt : Int32}
theorem fh_bit {row : Nat → Int32} {p pre v : Nat} (hv : v < 12) : bt (row (144 * p + pre)) v = fh row p (pre * 12 + v) := by
  unfold fh
  rw [show (pre * 12 + v) / 12 = pre by omega, show (pre * 12 + v) % 12 = v by omega]
theorem S_lastC {row : Nat → Int32} {p pre : Nat} (hp : p < 10) (hpre : pre < 144) : M_FactSet_lastConstants row (nI p) (nI pre) = some (row (144 * p + pre)) := by
  unfold M_FactSet_lastConstants
  rw [if_neg (nI_pos (by omega)), if_neg (show ¬ (144 : Int32) ≤ nI pre from nI_ge (a := pre) (b := 144) hpre (by decide)), f_mul, nI_add, Nat.mul_comm p, gd_n _ (show 144 * p + pre < 1440 by omega) (by decide), lt_e, nI_clamp (show 144 * p + pre < 2 ^ 31 by omega)]
/-- one term of an atom -/
theorem S_tryT (ok : P.ok) (hc : PC P s kind who width term start) {r le i j t pre : Nat} (hr : r < P.R) (hle : le ≤ P.K r) (hF : 13 < F) (hi1 : 1 ≤ i) (hi : i ≤ P.K r) (hk : P.kd r i = 1) (hj : j < 5) (ep : plan j = nI (s r + i)) (ht : t < P.wd r i) (hpre : pre < 12 ^ t) {value : Nat → Int32} {ν : Nat → Nat} {st : Int32 × (Nat → Int32) × (Nat → Int32)} {g : Nat → List (Nat → Nat)} (hv : VV value ν)
    (hg : ∀ v, v < 12 → t + 1 = P.wd r i → P.src r le fa la i (pre * 12 + v) = false → g v = [])
    (hin : ∀ v, v < 12 → (tn ν (P.tm r i t) = 0 ∨ tn ν (P.tm r i t) = v + 1) → ∀ st : Int32 × (Nat → Int32) × (Nat → Int32), (t + 1 < P.wd r i → rt (upd value (P.tm r i t) (nI v)) st.1 st.2.1 st.2.2 (nI j) (nI (t + 1)) (nI (pre * 12 + v)) = some (upd value (P.tm r i t) (nI v), List.foldl op st (g v))) ∧ (t + 1 = P.wd r i → P.src r le fa la i (pre * 12 + v) = true → rs (upd value (P.tm r i t) (nI v)) st.1 st.2.1 st.2.2 (nI (j + 1)) = some (upd value (P.tm r i t) (nI v), List.foldl op st (g v)))) :
    B_Search_tryTerm rs rt F plan planned (nI (s r)) (if le = 0 then -1 else nI (s r + le)) cnt fa la kind who width term value st.1 st.2.1 st.2.2 (nI j) (nI t) (nI pre) = some (value, List.foldl op st (if tn ν (P.tm r i t) = 0 then vl g 12 0 else vl g 1 (tn ν (P.tm r i t) - 1))) := by
  obtain ⟨-, -, h240, e⟩ := hc r hr
  obtain ⟨-, ew, ewd, et⟩ := e i hi
  obtain ⟨-, -, w3, -, p10, t38⟩ := (ok.2 r hr).2.2 i hi
  have et := et t ht
  have hm := t38 t ht
  have p10 := p10 (by omega)
  have ew := ew (by omega)
  obtain ⟨ev, hv12⟩ := hv _ hm
  have e12 : ∀ v, nI pre * (12 : Int32) + nI v = nI (pre * 12 + v) := fun v => by
    have : nI pre * (12 : Int32) = nI (pre * 12) := pk_mul pre 12
    rw [this, nI_add]
  generalize hmm : P.tm r i t = m at *
  -- the loop over the constants, with the options of either kind
  have loop : ∀ (opts w5 : Int32), (∀ v, v < 12 → bt opts v = false → g v = []) → (∀ v, v < 12 → bt opts v = true → (tn ν m = 0 ∨ tn ν m = v + 1) → ∀ st : Int32 × (Nat → Int32) × (Nat → Int32), (if w5 = 0 then rt (upd value m (nI v)) st.1 st.2.1 st.2.2 (nI j) (nI t + 1) (nI pre * 12 + nI v) else rs (upd value m (nI v)) st.1 st.2.1 st.2.2 (nI j + 1)) = some (upd value m (nI v), List.foldl op st (g v))) →
      ∃ vc' : Nat → Int32, (tn ν m = 0 → M_Search_tryTerm_L122 rs rt F (11 : Int32) (nI m) opts w5 (nI j) (nI t) (nI pre) F (0 : Int32) value st.1 st.2.1 st.2.2 = some (vc', List.foldl op st (vl g 12 0))) ∧ (tn ν m ≠ 0 → M_Search_tryTerm_L122 rs rt F (nI (tn ν m - 1)) (nI m) opts w5 (nI j) (nI t) (nI pre) F (nI (tn ν m - 1)) value st.1 st.2.1 st.2.2 = some (vc', List.foldl op st (vl g 1 (tn ν m - 1)))) ∧ ∀ y, y ≠ m → vc' y = value y := fun opts w5 o1 o2 => by
    by_cases c : tn ν m = 0
    · obtain ⟨vc', a1, a2⟩ := S_L122 (F := F) (rs := rs) (rt := rt) (op := op) (value := value) (hi := 11) (opts := opts) (w5 := w5) (w1 := nI j) (w2 := nI t) (w3 := nI pre) (g := g) hm (by decide) (fun v h1 h2 => o1 v (by omega) h2) (fun v h1 h2 st => o2 v (by omega) h2 (Or.inl c) st) 12 0 F value st rfl (by omega) (fun _ _ => rfl)
      exact ⟨vc', fun _ => a1, fun z => absurd c z, a2⟩
    · have hs : tn ν m = (tn ν m - 1) + 1 := by omega
      obtain ⟨vc', a1, a2⟩ : ∃ vc', M_Search_tryTerm_L122 rs rt F (nI (tn ν m - 1)) (nI m) opts w5 (nI j) (nI t) (nI pre) F (nI (tn ν m - 1)) value st.1 st.2.1 st.2.2 = some (vc', List.foldl op st (vl g 1 (tn ν m - 1))) ∧ ∀ y, y ≠ m → vc' y = value y := by
        obtain ⟨n, hn⟩ : ∃ n, F = n + 1 := ⟨F - 1, by omega⟩
        conv => enter [1, vc', 1, 1]; rw [hn]
        have hc12 : tn ν m - 1 < 12 := by omega
        unfold M_Search_tryTerm_L122
        rw [← hn, if_neg (nI_nlt (a := tn ν m - 1) (b := tn ν m - 1) (by omega) (by omega))]
        have v1 : vl g 1 (tn ν m - 1) = g (tn ν m - 1) := List.append_nil _
        rw [v1]
        by_cases d : opts >>> (nI (tn ν m - 1) &&& 31) = 0
        · rw [if_pos d, o1 _ hc12 (shr_0 (by omega) d (Nat.le_refl _) (by omega))]
          exact ⟨value, rfl, fun _ _ => rfl⟩
        · rw [if_neg d]
          obtain ⟨n', hn'⟩ : ∃ n', n = n' + 1 := ⟨n - 1, by omega⟩
          have tail : ∀ vc (st : Int32 × (Nat → Int32) × (Nat → Int32)), M_Search_tryTerm_L122 rs rt F (nI (tn ν m - 1)) (nI m) opts w5 (nI j) (nI t) (nI pre) n (nI (tn ν m - 1 + 1)) vc st.1 st.2.1 st.2.2 = some (vc, st) := fun vc st => by
            rw [hn']
            unfold M_Search_tryTerm_L122
            rw [if_pos (nI_lt (by omega) (by omega))]
          by_cases d2 : bt opts (tn ν m - 1) = false
          · rw [if_pos ((bt_ask opts (by omega)).mpr d2), lt_e, nI_1, o1 _ hc12 d2]
            exact ⟨value, tail _ _, fun _ _ => rfl⟩
          · have hi1 := o2 (tn ν m - 1) hc12 (by simpa using d2) (Or.inr hs) st
            rw [if_neg (fun z => d2 ((bt_ask opts (by omega)).mp z)), gd_n _ hm (by decide), lt_e, nI_clamp (show m < 2 ^ 31 by omega)]
            refine ⟨upd value m (nI (tn ν m - 1)), ?_, fun y hy => pk_un hy⟩
            by_cases c3 : w5 = 0
            · rw [if_pos c3] at hi1
              rw [if_pos c3, bd_e _ hi1, lt_e, nI_1]
              exact tail _ _
            · rw [if_neg c3] at hi1
              rw [if_neg c3, bd_e _ hi1, lt_e, nI_1]
              exact tail _ _
      exact ⟨vc', fun z => absurd z c, fun _ => a1, a2⟩
  have fin : ∀ (opts w5 : Int32) (vc' : Nat → Int32) (R : Int32 × (Nat → Int32) × (Nat → Int32)), (∀ y, y ≠ m → vc' y = value y) → (gd_ (nI m) 38 <| lt_ (upd vc' (nI m).toNatClampNeg (value m)) fun f => some (f, R.1, R.2.1, R.2.2)) = some (value, R) := fun opts w5 vc' R h => by
    rw [gd_n _ hm (by decide), lt_e, nI_clamp (show m < 2 ^ 31 by omega), upd_same h]
  have ee : nI (s r + i) = (if le = 0 then -1 else nI (s r + le)) ↔ i = le := by
    by_cases c : le = 0
    · rw [if_pos c]
      exact ⟨fun z => absurd z (nI_nm1 (by omega)), fun z => by omega⟩
    · rw [if_neg c, nI_eq (by omega) (by omega)]
      omega
  unfold B_Search_tryTerm
  rw [gd_n _ hj (by decide), lt_e, nI_clamp (show j < 2 ^ 31 by omega), ep, gd_n _ (show s r + i < 240 by omega) (by decide), nI_clamp (show s r + i < 2 ^ 31 by omega), ewd, nI_1]
  by_cases cl : t + 1 < P.wd r i
  · rw [if_pos (nI_lt cl (by omega)), if_pos rfl, x3, gd_n _ (show 3 * (s r + i) + t < 720 by omega) (by decide), lt_e, nI_clamp (show 3 * (s r + i) + t < 2 ^ 31 by omega), et, gd_n _ hm (by decide), lt_e, nI_clamp (show m < 2 ^ 31 by omega)]
    have b4095 : ∀ v, v < 12 → bt (4095 : Int32) v = true := by decide +kernel
    obtain ⟨vc', a1, a2, a3⟩ := loop 4095 0 (fun v h1 h2 => by rw [b4095 v h1] at h2; exact absurd h2 (by decide)) (fun v h1 h2 h3 st => by
      rw [if_pos rfl, nI_1, e12]
      exact (hin v h1 h3 st).1 cl)
    by_cases c : tn ν m = 0
    · have ev1 : value m = -1 := by rw [ev, c]; rfl
      rw [if_pos ev1, if_pos ev1, bd_e _ (a1 c), if_pos c]
      have := fin 0 0 vc' (List.foldl op st (vl g 12 0)) a3
      rw [nI_clamp (show m < 2 ^ 31 by omega)] at this
      exact this
    · have ev1 : value m = nI (tn ν m - 1) := by
        obtain ⟨k, hk⟩ : ∃ k, tn ν m = k + 1 := ⟨tn ν m - 1, by omega⟩
        rw [ev, hk]; rfl
      have ev2 : ¬ value m = -1 := by rw [ev1]; exact nI_nm1 (by omega)
      have a2 := a2 c
      rw [← ev1] at a2
      rw [if_neg ev2, if_neg ev2, bd_e _ a2, if_neg c]
      have := fin 0 0 vc' (List.foldl op st (vl g 1 (tn ν m - 1))) a3
      rw [nI_clamp (show m < 2 ^ 31 by omega)] at this
      exact this
  · have hwd : t + 1 = P.wd r i := by omega
    have hpre : pre < 144 := by
      have : (12 : Nat) ^ t ≤ 12 ^ 2 := Nat.pow_le_pow_right (by decide) (by omega)
      have : (12 : Nat) ^ 2 = 144 := by decide
      omega
    rw [if_neg (nI_nlt (by omega) (by omega)), if_neg (show ¬ (1 : Int32) = 0 by decide)]
    by_cases cs : i = le
    · have hsrc : ∀ v, v < 12 → bt (la (144 * P.pd r i + pre)) v = P.src r le fa la i (pre * 12 + v) := fun v h => by
        unfold AP.src
        rw [if_pos cs]
        exact fh_bit h
      rw [if_pos (ee.mpr cs), gd_n _ (show s r + i < 240 by omega) (by decide), ew, bd_e _ (S_lastC p10 hpre), x3, gd_n _ (show 3 * (s r + i) + t < 720 by omega) (by decide), lt_e, nI_clamp (show 3 * (s r + i) + t < 2 ^ 31 by omega), et, gd_n _ hm (by decide), lt_e, nI_clamp (show m < 2 ^ 31 by omega)]
      obtain ⟨vc', a1, a2, a3⟩ := loop (la (144 * P.pd r i + pre)) 1 (fun v h1 h2 => hg v h1 hwd (by rw [← hsrc v h1]; exact h2)) (fun v h1 h2 h3 st => by
        rw [if_neg (by decide), nI_1]
        exact (hin v h1 h3 st).2 hwd (by rw [← hsrc v h1]; exact h2))
      by_cases c : tn ν m = 0
      · have ev1 : value m = -1 := by rw [ev, c]; rfl
        rw [if_pos ev1, if_pos ev1, bd_e _ (a1 c), if_pos c]
        have := fin 0 0 vc' (List.foldl op st (vl g 12 0)) a3
        rw [nI_clamp (show m < 2 ^ 31 by omega)] at this
        exact this
      · have ev1 : value m = nI (tn ν m - 1) := by
          obtain ⟨k, hk⟩ : ∃ k, tn ν m = k + 1 := ⟨tn ν m - 1, by omega⟩
          rw [ev, hk]; rfl
        have ev2 : ¬ value m = -1 := by rw [ev1]; exact nI_nm1 (by omega)
        have a2 := a2 c
        rw [← ev1] at a2
        rw [if_neg ev2, if_neg ev2, bd_e _ a2, if_neg c]
        have := fin 0 0 vc' (List.foldl op st (vl g 1 (tn ν m - 1))) a3
        rw [nI_clamp (show m < 2 ^ 31 by omega)] at this
        exact this
    · have hsrc : ∀ v, v < 12 → bt (fa (144 * P.pd r i + pre)) v = P.src r le fa la i (pre * 12 + v) := fun v h => by
        unfold AP.src
        rw [if_neg cs]
        exact fh_bit h
      rw [if_neg (fun z => cs (ee.mp z)), gd_n _ (show s r + i < 240 by omega) (by decide), ew, bd_e _ (S_lastC p10 hpre), x3, gd_n _ (show 3 * (s r + i) + t < 720 by omega) (by decide), lt_e, nI_clamp (show 3 * (s r + i) + t < 2 ^ 31 by omega), et, gd_n _ hm (by decide), lt_e, nI_clamp (show m < 2 ^ 31 by omega)]
      obtain ⟨vc', a1, a2, a3⟩ := loop (fa (144 * P.pd r i + pre)) 1 (fun v h1 h2 => hg v h1 hwd (by rw [← hsrc v h1]; exact h2)) (fun v h1 h2 h3 st => by
        rw [if_neg (by decide), nI_1]
        exact (hin v h1 h3 st).2 hwd (by rw [← hsrc v h1]; exact h2))
      by_cases c : tn ν m = 0
      · have ev1 : value m = -1 := by rw [ev, c]; rfl
        rw [if_pos ev1, if_pos ev1, bd_e _ (a1 c), if_pos c]
        have := fin 0 0 vc' (List.foldl op st (vl g 12 0)) a3
        rw [nI_clamp (show m < 2 ^ 31 by omega)] at this
        exact this
      · have ev1 : value m = nI (tn ν m - 1) := by
          obtain ⟨k, hk⟩ : ∃ k, tn ν m = k + 1 := ⟨tn ν m - 1, by omega⟩
          rw [ev, hk]; rfl
        have ev2 : ¬ value m = -1 := by rw [ev1]; exact nI_nm1 (by omega)
        have a2 := a2 c
        rw [← ev1] at a2
        rw [if_neg ev2, if_neg ev2, bd_e _ a2, if_neg c]
        have := fin 0 0 vc' (List.foldl op st (vl g 1 (tn ν m - 1))) a3
        rw [nI_clamp (show m < 2 ^ 31 by omega)] at this
        exact this
end
