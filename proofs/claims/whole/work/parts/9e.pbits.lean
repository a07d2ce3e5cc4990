/-! how many bits an int has: byte by byte -/
theorem and_byte {a b m k : Nat} (ha : a < 256) (hm : m < 256) : (a + 256 * b) &&& (m + 256 * k) = (a &&& m) + 256 * (b &&& k) := by
  have h256 : (256 : Nat) = 2 ^ 8 := rfl
  have hx : a &&& m < 2 ^ 8 := Nat.lt_of_le_of_lt Nat.and_le_left ha
  apply Nat.eq_of_testBit_eq
  intro i
  rw [Nat.testBit_and, Nat.add_comm a, Nat.add_comm m, Nat.add_comm (a &&& m), h256, Nat.testBit_two_pow_mul_add _ ha, Nat.testBit_two_pow_mul_add _ hm, Nat.testBit_two_pow_mul_add _ hx]
  by_cases c : i < 8
  · rw [if_pos c, if_pos c, if_pos c, Nat.testBit_and]
  · rw [if_neg c, if_neg c, if_neg c, Nat.testBit_and]
theorem and_4 {a b c d m : Nat} (ha : a < 256) (hb : b < 256) (hc : c < 256) (hm : m < 256) : (a + 256 * (b + 256 * (c + 256 * d))) &&& (m + 256 * (m + 256 * (m + 256 * m))) = (a &&& m) + 256 * ((b &&& m) + 256 * ((c &&& m) + 256 * (d &&& m))) := by
  rw [and_byte ha hm, and_byte hb hm, and_byte hc hm]
theorem ushr_n {k j : Nat} (hk : k < 2 ^ 32) (hj : j < 32) : ((nI k).toUInt32 >>> ((nI j).toUInt32 &&& Int32.toUInt32 31)).toInt32 = nI (k / 2 ^ j) := by
  have hs : k >>> j ≤ k := by
    rw [Nat.shiftRight_eq_div_pow]
    exact Nat.div_le_self _ _
  have e2 : UInt32.ofNat k >>> (UInt32.ofNat j &&& Int32.toUInt32 31) = UInt32.ofNat (k >>> j) := by
    apply UInt32.toNat_inj.1
    have h1 : (UInt32.ofNat k).toNat = k := Nat.mod_eq_of_lt hk
    have h2 : (UInt32.ofNat (k >>> j)).toNat = k >>> j := Nat.mod_eq_of_lt (by omega)
    rw [UInt32.toNat_shiftRight, nx_cnt ⟨j, hj⟩, h1, h2]
  show (UInt32.ofNat k >>> (UInt32.ofNat j &&& Int32.toUInt32 31)).toInt32 = _
  rw [e2, Nat.shiftRight_eq_div_pow]
  rfl
theorem y_1 : ∀ b, b < 256 → ∀ x, x < 2 → (b / 2 + 128 * x) &&& 85 = (b / 2) &&& 85 := by decide +kernel
theorem y_1l : ∀ b, b < 256 → (b / 2) &&& 85 ≤ b := by decide +kernel
def p1 (b : Nat) : Nat := b - ((b / 2) &&& 85)
theorem y_2 : ∀ b, b < 256 → ∀ x, x < 4 → (b / 4 + 64 * x) &&& 51 = (b / 4) &&& 51 := by decide +kernel
def p2 (b : Nat) : Nat := (b &&& 51) + ((b / 4) &&& 51)
def p3 (b : Nat) : Nat := (b + b / 16) % 16
theorem y_2l : ∀ b, b < 256 → p2 (p1 b) ≤ 68 ∧ p2 (p1 b) % 16 ≤ 4 ∧ p3 (p2 (p1 b)) ≤ 8 := by decide +kernel
theorem y_3 : ∀ b, b < 256 → p3 (p2 (p1 b)) = ct (fun i => b.testBit i) 8 := by decide +kernel
theorem and15 (x : Nat) : x &&& 15 = x % 16 := Nat.and_two_pow_sub_one_eq_mod x 4
theorem and63 (x : Nat) : x &&& 63 = x % 64 := Nat.and_two_pow_sub_one_eq_mod x 6
theorem bc_n {a b c d : Nat} (ha : a < 256) (hb : b < 256) (hc : c < 256) (hd : d < 256) : M_Integer_bitCount_0f7a4 (nI (a + 256 * (b + 256 * (c + 256 * d)))) = some (nI (p3 (p2 (p1 a)) + p3 (p2 (p1 b)) + p3 (p2 (p1 c)) + p3 (p2 (p1 d)))) := by
  have la := y_1l a ha
  have lb := y_1l b hb
  have lc := y_1l c hc
  have ld := y_1l d hd
  have fa := y_2l a ha
  have fb := y_2l b hb
  have fc := y_2l c hc
  have fd := y_2l d hd
  have e1 : ((nI (a + 256 * (b + 256 * (c + 256 * d)))).toUInt32 >>> ((1 : Int32).toUInt32 &&& Int32.toUInt32 31)).toInt32 = nI ((a / 2 + 128 * (b % 2)) + 256 * ((b / 2 + 128 * (c % 2)) + 256 * ((c / 2 + 128 * (d % 2)) + 256 * (d / 2 + 128 * 0)))) := by
    refine (ushr_n (j := 1) (by omega) (by decide)).trans (congrArg nI ?_)
    show _ / 2 = _
    omega
  have e2 : nI ((a / 2 + 128 * (b % 2)) + 256 * ((b / 2 + 128 * (c % 2)) + 256 * ((c / 2 + 128 * (d % 2)) + 256 * (d / 2 + 128 * 0)))) &&& (1431655765 : Int32) = nI ((a / 2 &&& 85) + 256 * ((b / 2 &&& 85) + 256 * ((c / 2 &&& 85) + 256 * (d / 2 &&& 85)))) := by
    show _ &&& nI (85 + 256 * (85 + 256 * (85 + 256 * 85))) = _
    rw [nx_and, and_4 (by omega) (by omega) (by omega) (by decide), y_1 a ha _ (by omega), y_1 b hb _ (by omega), y_1 c hc _ (by omega), y_1 d hd _ (by decide)]
  have e3 : nI (a + 256 * (b + 256 * (c + 256 * d))) - nI ((a / 2 &&& 85) + 256 * ((b / 2 &&& 85) + 256 * ((c / 2 &&& 85) + 256 * (d / 2 &&& 85)))) = nI (p1 a + 256 * (p1 b + 256 * (p1 c + 256 * p1 d))) := by
    rw [pk_sub (by omega)]
    refine congrArg nI ?_
    unfold p1
    omega
  have qa : p1 a < 256 := by unfold p1; omega
  have qb : p1 b < 256 := by unfold p1; omega
  have qc : p1 c < 256 := by unfold p1; omega
  have qd : p1 d < 256 := by unfold p1; omega
  have e4 : ((nI (p1 a + 256 * (p1 b + 256 * (p1 c + 256 * p1 d)))).toUInt32 >>> ((2 : Int32).toUInt32 &&& Int32.toUInt32 31)).toInt32 = nI ((p1 a / 4 + 64 * (p1 b % 4)) + 256 * ((p1 b / 4 + 64 * (p1 c % 4)) + 256 * ((p1 c / 4 + 64 * (p1 d % 4)) + 256 * (p1 d / 4 + 64 * 0)))) := by
    refine (ushr_n (j := 2) (by omega) (by decide)).trans (congrArg nI ?_)
    show _ / 4 = _
    omega
  have e5 : nI ((p1 a / 4 + 64 * (p1 b % 4)) + 256 * ((p1 b / 4 + 64 * (p1 c % 4)) + 256 * ((p1 c / 4 + 64 * (p1 d % 4)) + 256 * (p1 d / 4 + 64 * 0)))) &&& (858993459 : Int32) = nI ((p1 a / 4 &&& 51) + 256 * ((p1 b / 4 &&& 51) + 256 * ((p1 c / 4 &&& 51) + 256 * (p1 d / 4 &&& 51)))) := by
    show _ &&& nI (51 + 256 * (51 + 256 * (51 + 256 * 51))) = _
    rw [nx_and, and_4 (by omega) (by omega) (by omega) (by decide), y_2 _ qa _ (by omega), y_2 _ qb _ (by omega), y_2 _ qc _ (by omega), y_2 _ qd _ (by decide)]
  have e6 : nI (p1 a + 256 * (p1 b + 256 * (p1 c + 256 * p1 d))) &&& (858993459 : Int32) = nI ((p1 a &&& 51) + 256 * ((p1 b &&& 51) + 256 * ((p1 c &&& 51) + 256 * (p1 d &&& 51)))) := by
    show _ &&& nI (51 + 256 * (51 + 256 * (51 + 256 * 51))) = _
    rw [nx_and, and_4 qa qb qc (by decide)]
  have e7 : nI ((p1 a &&& 51) + 256 * ((p1 b &&& 51) + 256 * ((p1 c &&& 51) + 256 * (p1 d &&& 51)))) + nI ((p1 a / 4 &&& 51) + 256 * ((p1 b / 4 &&& 51) + 256 * ((p1 c / 4 &&& 51) + 256 * (p1 d / 4 &&& 51)))) = nI (p2 (p1 a) + 256 * (p2 (p1 b) + 256 * (p2 (p1 c) + 256 * p2 (p1 d)))) := by
    rw [nI_add]
    refine congrArg nI ?_
    unfold p2
    omega
  generalize p2 (p1 a) = ta at *
  generalize p2 (p1 b) = tb at *
  generalize p2 (p1 c) = tc at *
  generalize p2 (p1 d) = td at *
  have e8 : ((nI (ta + 256 * (tb + 256 * (tc + 256 * td)))).toUInt32 >>> ((4 : Int32).toUInt32 &&& Int32.toUInt32 31)).toInt32 = nI ((ta / 16 + 16 * (tb % 16)) + 256 * ((tb / 16 + 16 * (tc % 16)) + 256 * ((tc / 16 + 16 * (td % 16)) + 256 * (td / 16)))) := by
    refine (ushr_n (j := 4) (by omega) (by decide)).trans (congrArg nI ?_)
    show _ / 16 = _
    omega
  have e9 : (nI (ta + 256 * (tb + 256 * (tc + 256 * td))) + nI ((ta / 16 + 16 * (tb % 16)) + 256 * ((tb / 16 + 16 * (tc % 16)) + 256 * ((tc / 16 + 16 * (td % 16)) + 256 * (td / 16))))) &&& (252645135 : Int32) = nI (p3 ta + 256 * (p3 tb + 256 * (p3 tc + 256 * p3 td))) := by
    show _ &&& nI (15 + 256 * (15 + 256 * (15 + 256 * 15))) = _
    rw [nI_add, nx_and, show ta + 256 * (tb + 256 * (tc + 256 * td)) + ((ta / 16 + 16 * (tb % 16)) + 256 * ((tb / 16 + 16 * (tc % 16)) + 256 * ((tc / 16 + 16 * (td % 16)) + 256 * (td / 16)))) = (ta + ta / 16 + 16 * (tb % 16)) + 256 * ((tb + tb / 16 + 16 * (tc % 16)) + 256 * ((tc + tc / 16 + 16 * (td % 16)) + 256 * (td + td / 16))) by omega, and_4 (by omega) (by omega) (by omega) (by decide), and15, and15, and15, and15]
    refine congrArg nI ?_
    unfold p3
    omega
  have ka : p3 ta ≤ 8 := fa.2.2
  have kb : p3 tb ≤ 8 := fb.2.2
  have kc : p3 tc ≤ 8 := fc.2.2
  have kd : p3 td ≤ 8 := fd.2.2
  generalize p3 ta = ra at *
  generalize p3 tb = rb at *
  generalize p3 tc = rc at *
  generalize p3 td = rd at *
  have e10 : ((nI (ra + 256 * (rb + 256 * (rc + 256 * rd)))).toUInt32 >>> ((8 : Int32).toUInt32 &&& Int32.toUInt32 31)).toInt32 = nI (rb + 256 * (rc + 256 * rd)) := by
    refine (ushr_n (j := 8) (by omega) (by decide)).trans (congrArg nI ?_)
    show _ / 256 = _
    omega
  have e11 : nI (ra + 256 * (rb + 256 * (rc + 256 * rd))) + nI (rb + 256 * (rc + 256 * rd)) = nI ((ra + rb) + 256 * ((rb + rc) + 256 * ((rc + rd) + 256 * rd))) := by
    rw [nI_add]
    refine congrArg nI ?_
    omega
  have e12 : ((nI ((ra + rb) + 256 * ((rb + rc) + 256 * ((rc + rd) + 256 * rd)))).toUInt32 >>> ((16 : Int32).toUInt32 &&& Int32.toUInt32 31)).toInt32 = nI ((rc + rd) + 256 * rd) := by
    refine (ushr_n (j := 16) (by omega) (by decide)).trans (congrArg nI ?_)
    show _ / 65536 = _
    omega
  have e13 : (nI ((ra + rb) + 256 * ((rb + rc) + 256 * ((rc + rd) + 256 * rd))) + nI ((rc + rd) + 256 * rd)) &&& (63 : Int32) = nI (ra + rb + rc + rd) := by
    show _ &&& nI 63 = _
    rw [nI_add, nx_and, and63]
    refine congrArg nI ?_
    omega
  unfold M_Integer_bitCount_0f7a4
  rw [lt_e, lt_e, lt_e, lt_e, lt_e, lt_e, lt_e, lt_e, lt_e, lt_e, e1, e2, e3, e4, e5, e6, e7, e8, e9, e10, e11, e12, e13]
/-- Integer.bitCount -/
theorem S_bc32 (x : Int32) : M_Integer_bitCount_0f7a4 x = some (nI (ct (bt x) 32)) := by
  obtain ⟨n, hn, rfl⟩ : ∃ n, n < 2 ^ 32 ∧ x = nI n := ⟨x.toBitVec.toNat, x.toBitVec.isLt, by
    apply Int32.toBitVec_inj.1
    show x.toBitVec = BitVec.ofNat 32 x.toBitVec.toNat
    simp⟩
  have hb : ∀ i, i < 32 → bt (nI n) i = n.testBit i := fun i hi => by
    show (BitVec.ofNat 32 n).getLsbD i = _
    rw [BitVec.getLsbD_ofNat, decide_eq_true hi, Bool.true_and]
  have e : n = n % 256 + 256 * (n / 256 % 256 + 256 * (n / 65536 % 256 + 256 * (n / 16777216))) := by omega
  have t : ∀ k i, k + i < 32 → bt (nI n) (k + i) = (n / 2 ^ k).testBit i := fun k i h => by
    rw [hb _ h, Nat.testBit_div_two_pow, Nat.add_comm]
  have u : ∀ m i, i < 8 → (m % 256).testBit i = m.testBit i := fun m i h => by
    show (m % 2 ^ 8).testBit i = _
    rw [Nat.testBit_mod_two_pow]
    simp [h]
  have s : ct (bt (nI n)) 32 = ct (fun i => (n % 256).testBit i) 8 + ct (fun i => (n / 256 % 256).testBit i) 8 + ct (fun i => (n / 65536 % 256).testBit i) 8 + ct (fun i => (n / 16777216).testBit i) 8 := by
    rw [show (32 : Nat) = 24 + 8 from rfl, ct_add, show (24 : Nat) = 16 + 8 from rfl, ct_add, show (16 : Nat) = 8 + 8 from rfl, ct_add]
    have a1 : ct (bt (nI n)) 8 = ct (fun i => (n % 256).testBit i) 8 := ct_congr (fun i hi => by rw [u _ _ hi]; exact hb i (by omega))
    have a2 : ct (fun i => bt (nI n) (8 + i)) 8 = ct (fun i => (n / 256 % 256).testBit i) 8 := ct_congr (fun i hi => by rw [u _ _ hi]; exact t 8 i (by omega))
    have a3 : ct (fun i => bt (nI n) (8 + 8 + i)) 8 = ct (fun i => (n / 65536 % 256).testBit i) 8 := ct_congr (fun i hi => by rw [u _ _ hi]; exact t 16 i (by omega))
    have a4 : ct (fun i => bt (nI n) (8 + 8 + 8 + i)) 8 = ct (fun i => (n / 16777216).testBit i) 8 := ct_congr (fun i hi => t 24 i (by omega))
    rw [a1, a2, a3, a4]
  rw [s, ← y_3 _ (by omega), ← y_3 _ (by omega), ← y_3 _ (by omega), ← y_3 _ (by omega)]
  conv => lhs; rw [e]
  exact bc_n (by omega) (by omega) (by omega) (by omega)
