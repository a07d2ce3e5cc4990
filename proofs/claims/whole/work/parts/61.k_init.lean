theorem km_X7_1 : Cond.methodLink RX7 1 objectInit ∈ kT := k_in 101 (by decide +kernel)
theorem k_acB : Cond.arrayClass .byte ∈ kT := k_in 109 (by decide +kernel)
theorem km_X2_3 : Cond.methodLink RX2 3 objectInit ∈ kT := k_in 115 (by decide +kernel)
theorem km_X1_3 : Cond.methodLink RX1 3 objectInit ∈ kT := k_in 128 (by decide +kernel)
theorem k_acI : Cond.arrayClass .int ∈ kT := k_in 136 (by decide +kernel)
theorem km_X4_5 : Cond.methodLink RX4 5 objectInit ∈ kT := k_in 162 (by decide +kernel)
theorem km_X3_1 : Cond.methodLink RX3 1 objectInit ∈ kT := k_in 142 (by decide +kernel)
theorem k_acZ : Cond.arrayClass .boolean ∈ kT := k_in 156 (by decide +kernel)
theorem km_X5_3 : Cond.methodLink RX5 3 objectInit ∈ kT := k_in 227 (by decide +kernel)
theorem km_X9_1 : Cond.methodLink RX9 1 objectInit ∈ kT := k_in 868 (by decide +kernel)
theorem km_X6_3 : Cond.methodLink RX6 3 objectInit ∈ kT := k_in 254 (by decide +kernel)
theorem km_X0_3 : Cond.methodLink RX0 3 objectInit ∈ kT := k_in 246 (by decide +kernel)
theorem kl_X0_9 : Cond.classLink RX0 9 RX1 ∈ kT := k_in 247 (by decide +kernel)
theorem kn_X1 : Cond.instantiable RX1 2 ∈ kT := k_in 124 (by decide +kernel)
theorem ki_X1 : Cond.initialized RX1 ∈ kT := k_in 73 (by decide +kernel)
theorem mn_X1_init : MN yX1_init cX1_init 1 0 := ⟨k_in 126 (by decide +kernel), k_in 73 (by decide +kernel), k_in 127 (by decide +kernel), ⟨by decide +kernel, by decide +kernel, by decide +kernel⟩, rfl⟩
theorem kl_X0_28 : Cond.classLink RX0 28 RX6 ∈ kT := k_in 249 (by decide +kernel)
theorem kn_X6 : Cond.instantiable RX6 12 ∈ kT := k_in 250 (by decide +kernel)
theorem ki_X6 : Cond.initialized RX6 ∈ kT := k_in 78 (by decide +kernel)
theorem km_X0_30 : Cond.methodLink RX0 30 yX6_init ∈ kT := k_in 251 (by decide +kernel)
theorem mn_X6_init : MN yX6_init cX6_init 6 4 := ⟨k_in 252 (by decide +kernel), k_in 78 (by decide +kernel), k_in 253 (by decide +kernel), ⟨by decide +kernel, by decide +kernel, by decide +kernel⟩, rfl⟩
theorem km_X8_3 : Cond.methodLink RX8 3 objectInit ∈ kT := k_in 93 (by decide +kernel)
theorem kl_X8_9 : Cond.classLink RX8 9 RX7 ∈ kT := k_in 96 (by decide +kernel)
theorem kn_X7 : Cond.instantiable RX7 2 ∈ kT := k_in 97 (by decide +kernel)
theorem ki_X7 : Cond.initialized RX7 ∈ kT := k_in 71 (by decide +kernel)
theorem mn_X7_init : MN yX7_init cX7_init 1 0 := ⟨k_in 99 (by decide +kernel), k_in 71 (by decide +kernel), k_in 100 (by decide +kernel), ⟨by decide +kernel, by decide +kernel, by decide +kernel⟩, rfl⟩
theorem kl_X8_16 : Cond.classLink RX8 16 RX2 ∈ kT := k_in 110 (by decide +kernel)
theorem kn_X2 : Cond.instantiable RX2 2 ∈ kT := k_in 111 (by decide +kernel)
theorem ki_X2 : Cond.initialized RX2 ∈ kT := k_in 72 (by decide +kernel)
theorem mn_X2_init : MN yX2_init cX2_init 1 0 := ⟨k_in 113 (by decide +kernel), k_in 72 (by decide +kernel), k_in 114 (by decide +kernel), ⟨by decide +kernel, by decide +kernel, by decide +kernel⟩, rfl⟩
theorem kl_X8_23 : Cond.classLink RX8 23 RX1 ∈ kT := k_in 123 (by decide +kernel)
theorem kl_X8_36 : Cond.classLink RX8 36 RX3 ∈ kT := k_in 137 (by decide +kernel)
theorem kn_X3 : Cond.instantiable RX3 4 ∈ kT := k_in 138 (by decide +kernel)
theorem ki_X3 : Cond.initialized RX3 ∈ kT := k_in 74 (by decide +kernel)
theorem km_X8_38 : Cond.methodLink RX8 38 yX3_init ∈ kT := k_in 139 (by decide +kernel)
theorem mn_X3_init : MN yX3_init cX3_init 2 1 := ⟨k_in 140 (by decide +kernel), k_in 74 (by decide +kernel), k_in 141 (by decide +kernel), ⟨by decide +kernel, by decide +kernel, by decide +kernel⟩, rfl⟩
theorem kl_X8_48 : Cond.classLink RX8 48 RX4 ∈ kT := k_in 157 (by decide +kernel)
theorem kn_X4 : Cond.instantiable RX4 12 ∈ kT := k_in 158 (by decide +kernel)
theorem ki_X4 : Cond.initialized RX4 ∈ kT := k_in 75 (by decide +kernel)
theorem mn_X4_init : MN yX4_init cX4_init 1 0 := ⟨k_in 160 (by decide +kernel), k_in 75 (by decide +kernel), k_in 161 (by decide +kernel), ⟨by decide +kernel, by decide +kernel, by decide +kernel⟩, rfl⟩
theorem kl_X8_58 : Cond.classLink RX8 58 RX5 ∈ kT := k_in 222 (by decide +kernel)
theorem kn_X5 : Cond.instantiable RX5 4 ∈ kT := k_in 223 (by decide +kernel)
theorem ki_X5 : Cond.initialized RX5 ∈ kT := k_in 76 (by decide +kernel)
theorem km_X8_60 : Cond.methodLink RX8 60 yX5_init ∈ kT := k_in 224 (by decide +kernel)
theorem mn_X5_init : MN yX5_init cX5_init 3 2 := ⟨k_in 225 (by decide +kernel), k_in 76 (by decide +kernel), k_in 226 (by decide +kernel), ⟨by decide +kernel, by decide +kernel, by decide +kernel⟩, rfl⟩
theorem kl_X8_67 : Cond.classLink RX8 67 RX0 ∈ kT := k_in 241 (by decide +kernel)
theorem kn_X0 : Cond.instantiable RX0 5 ∈ kT := k_in 242 (by decide +kernel)
theorem ki_X0 : Cond.initialized RX0 ∈ kT := k_in 77 (by decide +kernel)
theorem km_X8_69 : Cond.methodLink RX8 69 yX0_init ∈ kT := k_in 243 (by decide +kernel)
theorem mn_X0_init : MN yX0_init cX0_init 3 2 := ⟨k_in 244 (by decide +kernel), k_in 77 (by decide +kernel), k_in 245 (by decide +kernel), ⟨by decide +kernel, by decide +kernel, by decide +kernel⟩, rfl⟩
theorem k_oi1 : Cond.instanceMethod objectInit ∈ kT := k_in 94 (by decide +kernel)
theorem k_oi2 : Cond.code objectInit ⟨#[0xb1]⟩ 1 none ∈ kT := k_in 95 (by decide +kernel)
theorem kf_X8_63 : Cond.fieldLink RX8 63 "RuleHall" "reader" "LRuleHall$Reader;" ∈ kT := k_in 317 (by decide +kernel)
/-- what Search's values are at first -/
def kValue0 : Nat → Int32 := fun j => if j < 12 then nI j else if j < 38 then -1 else 0
theorem XOk.hall : XOk (fun U => va_Nw (.methodLinkNest RX8 11 yX7_init "RuleHall") U ∧ va_Nw (.methodLinkNest RX8 18 yX2_init "RuleHall") U ∧ va_Nw (.methodLinkNest RX8 25 yX1_init "RuleHall") U ∧ va_Nw (.methodLinkNest RX8 50 yX4_init "RuleHall") U ∧ va_Nw (.methodLinkNest RX0 11 yX1_init "RuleHall") U) := XOk.and XOk.nest (XOk.and XOk.nest (XOk.and XOk.nest (XOk.and XOk.nest XOk.nest)))
set_option maxRecDepth 100000 in
set_option maxHeartbeats 8000000 in
theorem N_Tape_init (l : Launch) (D : va_G) (cB cI cZ cJ : ClassId) (t : Nat) : KN l yX7_init cX7_init 1 { frames := 1, cells := 1, slots := 480, locals := 20 } D (kTy cB cI cZ cJ) (fun _ => True) [.ref t] [(t, .inr (7, [.null, .int 0]))] (fun ad => [(t, .inr (7, [.ref (ad 0), .int (0 : Int32)])), (ad 0, .inl (cB, 480, .inl (fun _ => 0)))]) 1 480 := by
  refine KN.of (by decide +kernel) (Nat.le_of_ble_eq_true rfl) ?_
  intro p e s m below meth c A ls args Q hQ CX hA hK hP hD hl hX hin
  obtain ⟨hx, hb, hr, hml, hown, hts, hlocks⟩ := CX
  have hown : s.vm.findClass RX7 = some m.cls := hown
  have hin : meth.name = "<init>" := hin
  have hS : va_S A s.heap s.heap [] := va_S.rf
  have hl : lv_has ls 1 [(0, .ref t)] := hl
  refine lv_aload_n hx hb dX7_init_0 rfl (lv_at hl 0 rfl) ?_
  refine W.objInit hx hb hown (hts _ km_X7_1) (hts _ k_oi1) (hts _ k_oi2) rfl (by rw [hml]; exact hl.1) rfl dX7_init_1 (Nat.le_of_ble_eq_true rfl) (Nat.le_of_ble_eq_true rfl) ?_
  refine W.eq (g2 := F0 m 4 ls []) rfl ?_
  refine lv_aload_n hx hb dX7_init_4 rfl (lv_at hl 0 rfl) ?_
  refine lv_sipush (v := (480 : Int32)) hx hb dX7_init_5 (by decide) ?_
  refine k_newa (atype := .byte) (ty1 := .byte) (N' := 480) hx hb (hts _ k_acB) 0 rfl (fun _ h => h) rfl hK hP hD hS hA rfl (by decide) (by decide) (by decide) (Nat.le_of_ble_eq_true rfl) (Nat.le_of_ble_eq_true rfl) dX7_init_8 (fun q1 H hP hD hS => ?_)
  refine W.widen (k := 1) (n := 480) (Nat.le_of_ble_eq_true rfl) (Nat.le_of_ble_eq_true rfl) ?_
  have hP : va_P D vwCl [(t, .inr (7, [.null, .int 0])), (q1, .inl (cB, 480, .inl (fun _ => 0)))] H := hP
  have hD : va_D A [(t, .inr (7, [.null, .int 0])), (q1, .inl (cB, 480, .inl (fun _ => 0)))] := hD
  refine va_putF (D := D) (ci := 7) (v := .ref q1) (ty := (.array .byte)) (C := RX7) (T := TX7) (N := 2) hx hb hts in_X7 tyX7 tyX7_ok nmX7 hown hK hP hD hS 0 rfl rfl 0 (by decide) (hts _ kf_X7_9) (fun _ h9 => h9) rfl hin rfl (by decide +kernel) rfl rfl (Nat.le_of_ble_eq_true rfl) dX7_init_10 (fun H locs hP hD hS => ?_)
  have hP : va_P D vwCl [(t, .inr (7, [.ref q1, .int 0])), (q1, .inl (cB, 480, .inl (fun _ => 0)))] H := hP
  have hD : va_D A [(t, .inr (7, [.ref q1, .int 0])), (q1, .inl (cB, 480, .inl (fun _ => 0)))] := hD
  refine lv_aload_n hx hb dX7_init_13 rfl (lv_at hl 0 rfl) ?_
  refine lv_iconst (v := (0 : Int32)) hx hb dX7_init_14 (by decide) ?_
  refine va_put (D := D) (ci := 7) (v := .int (0 : Int32)) (ty := (.int)) (C := RX7) (T := TX7) (N := 2) hx hb hts in_X7 tyX7 tyX7_ok nmX7 hown hK hP hD hS 0 rfl rfl 1 (by decide) (hts _ kf_X7_13) (fun _ h9 => h9) rfl (by decide +kernel) rfl rfl (Nat.le_of_ble_eq_true rfl) dX7_init_15 (fun H locs hP hD hS => ?_)
  have hP : va_P D vwCl [(t, .inr (7, [.ref q1, .int (0 : Int32)])), (q1, .inl (cB, 480, .inl (fun _ => 0)))] H := hP
  have hD : va_D A [(t, .inr (7, [.ref q1, .int (0 : Int32)])), (q1, .inl (cB, 480, .inl (fun _ => 0)))] := hD
  exact k_nret (fun k => [q1].getD k 0) hx hb hr hlocks hK hP hD hS dX7_init_18 hQ rfl
set_option maxRecDepth 100000 in
set_option maxHeartbeats 8000000 in
theorem N_Inspector_init (l : Launch) (D : va_G) (cB cI cZ cJ : ClassId) (t : Nat) : KN l yX2_init cX2_init 1 { frames := 1, cells := 0, slots := 0, locals := 20 } D (kTy cB cI cZ cJ) (fun _ => True) [.ref t] [(t, .inr (2, [.int 0, .int 0]))] (fun ad => [(t, .inr (2, [.int (0 : Int32), .int (0 : Int32)]))]) 0 0 := by
  refine KN.of (by decide +kernel) (Nat.le_of_ble_eq_true rfl) ?_
  intro p e s m below meth c A ls args Q hQ CX hA hK hP hD hl hX hin
  obtain ⟨hx, hb, hr, hml, hown, hts, hlocks⟩ := CX
  have hown : s.vm.findClass RX2 = some m.cls := hown
  have hin : meth.name = "<init>" := hin
  have hS : va_S A s.heap s.heap [] := va_S.rf
  have hl : lv_has ls 1 [(0, .ref t)] := hl
  refine lv_aload_n hx hb dX2_init_0 rfl (lv_at hl 0 rfl) ?_
  refine W.objInit hx hb hown (hts _ km_X2_3) (hts _ k_oi1) (hts _ k_oi2) rfl (by rw [hml]; exact hl.1) rfl dX2_init_1 (Nat.le_of_ble_eq_true rfl) (Nat.le_of_ble_eq_true rfl) ?_
  refine W.eq (g2 := F0 m 4 ls []) rfl ?_
  refine lv_aload_n hx hb dX2_init_4 rfl (lv_at hl 0 rfl) ?_
  refine lv_iconst (v := (0 : Int32)) hx hb dX2_init_5 (by decide) ?_
  refine va_put (D := D) (ci := 2) (v := .int (0 : Int32)) (ty := (.int)) (C := RX2) (T := TX2) (N := 2) hx hb hts in_X2 tyX2 tyX2_ok nmX2 hown hK hP hD hS 0 rfl rfl 0 (by decide) (hts _ kf_X2_9) (fun _ h9 => h9) rfl (by decide +kernel) rfl rfl (Nat.le_of_ble_eq_true rfl) dX2_init_6 (fun H locs hP hD hS => ?_)
  have hP : va_P D vwCl [(t, .inr (2, [.int (0 : Int32), .int 0]))] H := hP
  have hD : va_D A [(t, .inr (2, [.int (0 : Int32), .int 0]))] := hD
  refine lv_aload_n hx hb dX2_init_9 rfl (lv_at hl 0 rfl) ?_
  refine lv_iconst (v := (0 : Int32)) hx hb dX2_init_10 (by decide) ?_
  refine va_put (D := D) (ci := 2) (v := .int (0 : Int32)) (ty := (.int)) (C := RX2) (T := TX2) (N := 2) hx hb hts in_X2 tyX2 tyX2_ok nmX2 hown hK hP hD hS 0 rfl rfl 1 (by decide) (hts _ kf_X2_15) (fun _ h9 => h9) rfl (by decide +kernel) rfl rfl (Nat.le_of_ble_eq_true rfl) dX2_init_11 (fun H locs hP hD hS => ?_)
  have hP : va_P D vwCl [(t, .inr (2, [.int (0 : Int32), .int (0 : Int32)]))] H := hP
  have hD : va_D A [(t, .inr (2, [.int (0 : Int32), .int (0 : Int32)]))] := hD
  exact k_nret (fun k => [].getD k 0) hx hb hr hlocks hK hP hD hS dX2_init_14 hQ rfl
set_option maxRecDepth 100000 in
set_option maxHeartbeats 8000000 in
theorem N_FactSet_init (l : Launch) (D : va_G) (cB cI cZ cJ : ClassId) (t : Nat) : KN l yX1_init cX1_init 1 { frames := 1, cells := 2, slots := 1450, locals := 20 } D (kTy cB cI cZ cJ) (fun _ => True) [.ref t] [(t, .inr (1, [.null, .null]))] (fun ad => [(t, .inr (1, [.ref (ad 0), .ref (ad 1)])), (ad 0, .inl (cI, 1440, .inl (fun _ => 0))), (ad 1, .inl (cI, 10, .inl (fun _ => 0)))]) 2 1450 := by
  refine KN.of (by decide +kernel) (Nat.le_of_ble_eq_true rfl) ?_
  intro p e s m below meth c A ls args Q hQ CX hA hK hP hD hl hX hin
  obtain ⟨hx, hb, hr, hml, hown, hts, hlocks⟩ := CX
  have hown : s.vm.findClass RX1 = some m.cls := hown
  have hin : meth.name = "<init>" := hin
  have hS : va_S A s.heap s.heap [] := va_S.rf
  have hl : lv_has ls 1 [(0, .ref t)] := hl
  refine lv_aload_n hx hb dX1_init_0 rfl (lv_at hl 0 rfl) ?_
  refine W.objInit hx hb hown (hts _ km_X1_3) (hts _ k_oi1) (hts _ k_oi2) rfl (by rw [hml]; exact hl.1) rfl dX1_init_1 (Nat.le_of_ble_eq_true rfl) (Nat.le_of_ble_eq_true rfl) ?_
  refine W.eq (g2 := F0 m 4 ls []) rfl ?_
  refine lv_aload_n hx hb dX1_init_4 rfl (lv_at hl 0 rfl) ?_
  refine lv_sipush (v := (1440 : Int32)) hx hb dX1_init_5 (by decide) ?_
  refine k_newa (atype := .int) (ty1 := .int) (N' := 1440) hx hb (hts _ k_acI) 1 rfl (fun _ h => h) rfl hK hP hD hS hA rfl (by decide) (by decide) (by decide) (Nat.le_of_ble_eq_true rfl) (Nat.le_of_ble_eq_true rfl) dX1_init_8 (fun q1 H hP hD hS => ?_)
  refine W.widen (k := 1) (n := 1440) (Nat.le_of_ble_eq_true rfl) (Nat.le_of_ble_eq_true rfl) ?_
  have hP : va_P D vwCl [(t, .inr (1, [.null, .null])), (q1, .inl (cI, 1440, .inl (fun _ => 0)))] H := hP
  have hD : va_D A [(t, .inr (1, [.null, .null])), (q1, .inl (cI, 1440, .inl (fun _ => 0)))] := hD
  refine va_putF (D := D) (ci := 1) (v := .ref q1) (ty := (.array .int)) (C := RX1) (T := TX1) (N := 2) hx hb hts in_X1 tyX1 tyX1_ok nmX1 hown hK hP hD hS 0 rfl rfl 0 (by decide) (hts _ kf_X1_11) (fun _ h9 => h9) rfl hin rfl (by decide +kernel) rfl rfl (Nat.le_of_ble_eq_true rfl) dX1_init_10 (fun H locs hP hD hS => ?_)
  have hP : va_P D vwCl [(t, .inr (1, [.ref q1, .null])), (q1, .inl (cI, 1440, .inl (fun _ => 0)))] H := hP
  have hD : va_D A [(t, .inr (1, [.ref q1, .null])), (q1, .inl (cI, 1440, .inl (fun _ => 0)))] := hD
  refine lv_aload_n hx hb dX1_init_13 rfl (lv_at hl 0 rfl) ?_
  refine lv_bipush (v := (10 : Int32)) hx hb dX1_init_14 (by decide) ?_
  refine k_newa (atype := .int) (ty1 := .int) (N' := 10) hx hb (hts _ k_acI) 1 rfl (fun _ h => h) rfl hK hP hD hS hA rfl (by decide) (by decide) (by decide) (Nat.le_of_ble_eq_true rfl) (Nat.le_of_ble_eq_true rfl) dX1_init_16 (fun q2 H hP hD hS => ?_)
  refine W.widen (k := 2) (n := 1450) (Nat.le_of_ble_eq_true rfl) (Nat.le_of_ble_eq_true rfl) ?_
  have hP : va_P D vwCl [(t, .inr (1, [.ref q1, .null])), (q1, .inl (cI, 1440, .inl (fun _ => 0))), (q2, .inl (cI, 10, .inl (fun _ => 0)))] H := hP
  have hD : va_D A [(t, .inr (1, [.ref q1, .null])), (q1, .inl (cI, 1440, .inl (fun _ => 0))), (q2, .inl (cI, 10, .inl (fun _ => 0)))] := hD
  refine va_putF (D := D) (ci := 1) (v := .ref q2) (ty := (.array .int)) (C := RX1) (T := TX1) (N := 2) hx hb hts in_X1 tyX1 tyX1_ok nmX1 hown hK hP hD hS 0 rfl rfl 1 (by decide) (hts _ kf_X1_15) (fun _ h9 => h9) rfl hin rfl (by decide +kernel) rfl rfl (Nat.le_of_ble_eq_true rfl) dX1_init_18 (fun H locs hP hD hS => ?_)
  have hP : va_P D vwCl [(t, .inr (1, [.ref q1, .ref q2])), (q1, .inl (cI, 1440, .inl (fun _ => 0))), (q2, .inl (cI, 10, .inl (fun _ => 0)))] H := hP
  have hD : va_D A [(t, .inr (1, [.ref q1, .ref q2])), (q1, .inl (cI, 1440, .inl (fun _ => 0))), (q2, .inl (cI, 10, .inl (fun _ => 0)))] := hD
  exact k_nret (fun k => [q1, q2].getD k 0) hx hb hr hlocks hK hP hD hS dX1_init_21 hQ rfl
set_option maxRecDepth 100000 in
set_option maxHeartbeats 8000000 in
theorem N_Program_init (l : Launch) (D : va_G) (cB cI cZ cJ : ClassId) (t : Nat) : KN l yX4_init cX4_init 1 { frames := 1, cells := 10, slots := 1961, locals := 20 } D (kTy cB cI cZ cJ) (fun _ => True) [.ref t] [(t, .inr (4, [.null, .null, .null, .null, .null, .null, .int 0, .int 0, .null, .null, .null, .null]))] (fun ad => [(t, .inr (4, [.ref (ad 0), .ref (ad 1), .ref (ad 2), .ref (ad 3), .ref (ad 4), .ref (ad 5), .int (0 : Int32), .int (0 : Int32), .ref (ad 6), .ref (ad 7), .ref (ad 8), .ref (ad 9)])), (ad 0, .inl (cI, 240, .inl (fun _ => 0))), (ad 1, .inl (cI, 240, .inl (fun _ => 0))), (ad 2, .inl (cI, 240, .inl (fun _ => 0))), (ad 3, .inl (cI, 240, .inl (fun _ => 0))), (ad 4, .inl (cI, 720, .inl (fun _ => 0))), (ad 5, .inl (cI, 241, .inl (fun _ => 0))), (ad 6, .inl (cI, 10, .inl (fun _ => 0))), (ad 7, .inl (cI, 10, .inl (fun _ => 0))), (ad 8, .inl (cI, 10, .inl (fun _ => 0))), (ad 9, .inl (cI, 10, .inl (fun _ => 0)))]) 10 1961 := by
  refine KN.of (by decide +kernel) (Nat.le_of_ble_eq_true rfl) ?_
  intro p e s m below meth c A ls args Q hQ CX hA hK hP hD hl hX hin
  obtain ⟨hx, hb, hr, hml, hown, hts, hlocks⟩ := CX
  have hown : s.vm.findClass RX4 = some m.cls := hown
  have hin : meth.name = "<init>" := hin
  have hS : va_S A s.heap s.heap [] := va_S.rf
  have hl : lv_has ls 1 [(0, .ref t)] := hl
  refine lv_aload_n hx hb dX4_init_0 rfl (lv_at hl 0 rfl) ?_
  refine W.objInit hx hb hown (hts _ km_X4_5) (hts _ k_oi1) (hts _ k_oi2) rfl (by rw [hml]; exact hl.1) rfl dX4_init_1 (Nat.le_of_ble_eq_true rfl) (Nat.le_of_ble_eq_true rfl) ?_
  refine W.eq (g2 := F0 m 4 ls []) rfl ?_
  refine lv_aload_n hx hb dX4_init_4 rfl (lv_at hl 0 rfl) ?_
  refine lv_sipush (v := (240 : Int32)) hx hb dX4_init_5 (by decide) ?_
  refine k_newa (atype := .int) (ty1 := .int) (N' := 240) hx hb (hts _ k_acI) 1 rfl (fun _ h => h) rfl hK hP hD hS hA rfl (by decide) (by decide) (by decide) (Nat.le_of_ble_eq_true rfl) (Nat.le_of_ble_eq_true rfl) dX4_init_8 (fun q1 H hP hD hS => ?_)
  refine W.widen (k := 1) (n := 240) (Nat.le_of_ble_eq_true rfl) (Nat.le_of_ble_eq_true rfl) ?_
  have hP : va_P D vwCl [(t, .inr (4, [.null, .null, .null, .null, .null, .null, .int 0, .int 0, .null, .null, .null, .null])), (q1, .inl (cI, 240, .inl (fun _ => 0)))] H := hP
  have hD : va_D A [(t, .inr (4, [.null, .null, .null, .null, .null, .null, .int 0, .int 0, .null, .null, .null, .null])), (q1, .inl (cI, 240, .inl (fun _ => 0)))] := hD
  refine va_putF (D := D) (ci := 4) (v := .ref q1) (ty := (.array .int)) (C := RX4) (T := TX4) (N := 12) hx hb hts in_X4 tyX4 tyX4_ok nmX4 hown hK hP hD hS 0 rfl rfl 0 (by decide) (hts _ kf_X4_13) (fun _ h9 => h9) rfl hin rfl (by decide +kernel) rfl rfl (Nat.le_of_ble_eq_true rfl) dX4_init_10 (fun H locs hP hD hS => ?_)
  have hP : va_P D vwCl [(t, .inr (4, [.ref q1, .null, .null, .null, .null, .null, .int 0, .int 0, .null, .null, .null, .null])), (q1, .inl (cI, 240, .inl (fun _ => 0)))] H := hP
  have hD : va_D A [(t, .inr (4, [.ref q1, .null, .null, .null, .null, .null, .int 0, .int 0, .null, .null, .null, .null])), (q1, .inl (cI, 240, .inl (fun _ => 0)))] := hD
  refine lv_aload_n hx hb dX4_init_13 rfl (lv_at hl 0 rfl) ?_
  refine lv_sipush (v := (240 : Int32)) hx hb dX4_init_14 (by decide) ?_
  refine k_newa (atype := .int) (ty1 := .int) (N' := 240) hx hb (hts _ k_acI) 1 rfl (fun _ h => h) rfl hK hP hD hS hA rfl (by decide) (by decide) (by decide) (Nat.le_of_ble_eq_true rfl) (Nat.le_of_ble_eq_true rfl) dX4_init_17 (fun q2 H hP hD hS => ?_)
  refine W.widen (k := 2) (n := 480) (Nat.le_of_ble_eq_true rfl) (Nat.le_of_ble_eq_true rfl) ?_
  have hP : va_P D vwCl [(t, .inr (4, [.ref q1, .null, .null, .null, .null, .null, .int 0, .int 0, .null, .null, .null, .null])), (q1, .inl (cI, 240, .inl (fun _ => 0))), (q2, .inl (cI, 240, .inl (fun _ => 0)))] H := hP
  have hD : va_D A [(t, .inr (4, [.ref q1, .null, .null, .null, .null, .null, .int 0, .int 0, .null, .null, .null, .null])), (q1, .inl (cI, 240, .inl (fun _ => 0))), (q2, .inl (cI, 240, .inl (fun _ => 0)))] := hD
  refine va_putF (D := D) (ci := 4) (v := .ref q2) (ty := (.array .int)) (C := RX4) (T := TX4) (N := 12) hx hb hts in_X4 tyX4 tyX4_ok nmX4 hown hK hP hD hS 0 rfl rfl 1 (by decide) (hts _ kf_X4_17) (fun _ h9 => h9) rfl hin rfl (by decide +kernel) rfl rfl (Nat.le_of_ble_eq_true rfl) dX4_init_19 (fun H locs hP hD hS => ?_)
  have hP : va_P D vwCl [(t, .inr (4, [.ref q1, .ref q2, .null, .null, .null, .null, .int 0, .int 0, .null, .null, .null, .null])), (q1, .inl (cI, 240, .inl (fun _ => 0))), (q2, .inl (cI, 240, .inl (fun _ => 0)))] H := hP
  have hD : va_D A [(t, .inr (4, [.ref q1, .ref q2, .null, .null, .null, .null, .int 0, .int 0, .null, .null, .null, .null])), (q1, .inl (cI, 240, .inl (fun _ => 0))), (q2, .inl (cI, 240, .inl (fun _ => 0)))] := hD
  refine lv_aload_n hx hb dX4_init_22 rfl (lv_at hl 0 rfl) ?_
  refine lv_sipush (v := (240 : Int32)) hx hb dX4_init_23 (by decide) ?_
  refine k_newa (atype := .int) (ty1 := .int) (N' := 240) hx hb (hts _ k_acI) 1 rfl (fun _ h => h) rfl hK hP hD hS hA rfl (by decide) (by decide) (by decide) (Nat.le_of_ble_eq_true rfl) (Nat.le_of_ble_eq_true rfl) dX4_init_26 (fun q3 H hP hD hS => ?_)
  refine W.widen (k := 3) (n := 720) (Nat.le_of_ble_eq_true rfl) (Nat.le_of_ble_eq_true rfl) ?_
  have hP : va_P D vwCl [(t, .inr (4, [.ref q1, .ref q2, .null, .null, .null, .null, .int 0, .int 0, .null, .null, .null, .null])), (q1, .inl (cI, 240, .inl (fun _ => 0))), (q2, .inl (cI, 240, .inl (fun _ => 0))), (q3, .inl (cI, 240, .inl (fun _ => 0)))] H := hP
  have hD : va_D A [(t, .inr (4, [.ref q1, .ref q2, .null, .null, .null, .null, .int 0, .int 0, .null, .null, .null, .null])), (q1, .inl (cI, 240, .inl (fun _ => 0))), (q2, .inl (cI, 240, .inl (fun _ => 0))), (q3, .inl (cI, 240, .inl (fun _ => 0)))] := hD
  refine va_putF (D := D) (ci := 4) (v := .ref q3) (ty := (.array .int)) (C := RX4) (T := TX4) (N := 12) hx hb hts in_X4 tyX4 tyX4_ok nmX4 hown hK hP hD hS 0 rfl rfl 2 (by decide) (hts _ kf_X4_20) (fun _ h9 => h9) rfl hin rfl (by decide +kernel) rfl rfl (Nat.le_of_ble_eq_true rfl) dX4_init_28 (fun H locs hP hD hS => ?_)
  have hP : va_P D vwCl [(t, .inr (4, [.ref q1, .ref q2, .ref q3, .null, .null, .null, .int 0, .int 0, .null, .null, .null, .null])), (q1, .inl (cI, 240, .inl (fun _ => 0))), (q2, .inl (cI, 240, .inl (fun _ => 0))), (q3, .inl (cI, 240, .inl (fun _ => 0)))] H := hP
  have hD : va_D A [(t, .inr (4, [.ref q1, .ref q2, .ref q3, .null, .null, .null, .int 0, .int 0, .null, .null, .null, .null])), (q1, .inl (cI, 240, .inl (fun _ => 0))), (q2, .inl (cI, 240, .inl (fun _ => 0))), (q3, .inl (cI, 240, .inl (fun _ => 0)))] := hD
  refine lv_aload_n hx hb dX4_init_31 rfl (lv_at hl 0 rfl) ?_
  refine lv_sipush (v := (240 : Int32)) hx hb dX4_init_32 (by decide) ?_
  refine k_newa (atype := .int) (ty1 := .int) (N' := 240) hx hb (hts _ k_acI) 1 rfl (fun _ h => h) rfl hK hP hD hS hA rfl (by decide) (by decide) (by decide) (Nat.le_of_ble_eq_true rfl) (Nat.le_of_ble_eq_true rfl) dX4_init_35 (fun q4 H hP hD hS => ?_)
  refine W.widen (k := 4) (n := 960) (Nat.le_of_ble_eq_true rfl) (Nat.le_of_ble_eq_true rfl) ?_
  have hP : va_P D vwCl [(t, .inr (4, [.ref q1, .ref q2, .ref q3, .null, .null, .null, .int 0, .int 0, .null, .null, .null, .null])), (q1, .inl (cI, 240, .inl (fun _ => 0))), (q2, .inl (cI, 240, .inl (fun _ => 0))), (q3, .inl (cI, 240, .inl (fun _ => 0))), (q4, .inl (cI, 240, .inl (fun _ => 0)))] H := hP
  have hD : va_D A [(t, .inr (4, [.ref q1, .ref q2, .ref q3, .null, .null, .null, .int 0, .int 0, .null, .null, .null, .null])), (q1, .inl (cI, 240, .inl (fun _ => 0))), (q2, .inl (cI, 240, .inl (fun _ => 0))), (q3, .inl (cI, 240, .inl (fun _ => 0))), (q4, .inl (cI, 240, .inl (fun _ => 0)))] := hD
  refine va_putF (D := D) (ci := 4) (v := .ref q4) (ty := (.array .int)) (C := RX4) (T := TX4) (N := 12) hx hb hts in_X4 tyX4 tyX4_ok nmX4 hown hK hP hD hS 0 rfl rfl 3 (by decide) (hts _ kf_X4_23) (fun _ h9 => h9) rfl hin rfl (by decide +kernel) rfl rfl (Nat.le_of_ble_eq_true rfl) dX4_init_37 (fun H locs hP hD hS => ?_)
  have hP : va_P D vwCl [(t, .inr (4, [.ref q1, .ref q2, .ref q3, .ref q4, .null, .null, .int 0, .int 0, .null, .null, .null, .null])), (q1, .inl (cI, 240, .inl (fun _ => 0))), (q2, .inl (cI, 240, .inl (fun _ => 0))), (q3, .inl (cI, 240, .inl (fun _ => 0))), (q4, .inl (cI, 240, .inl (fun _ => 0)))] H := hP
  have hD : va_D A [(t, .inr (4, [.ref q1, .ref q2, .ref q3, .ref q4, .null, .null, .int 0, .int 0, .null, .null, .null, .null])), (q1, .inl (cI, 240, .inl (fun _ => 0))), (q2, .inl (cI, 240, .inl (fun _ => 0))), (q3, .inl (cI, 240, .inl (fun _ => 0))), (q4, .inl (cI, 240, .inl (fun _ => 0)))] := hD
  refine lv_aload_n hx hb dX4_init_40 rfl (lv_at hl 0 rfl) ?_
  refine lv_sipush (v := (720 : Int32)) hx hb dX4_init_41 (by decide) ?_
  refine k_newa (atype := .int) (ty1 := .int) (N' := 720) hx hb (hts _ k_acI) 1 rfl (fun _ h => h) rfl hK hP hD hS hA rfl (by decide) (by decide) (by decide) (Nat.le_of_ble_eq_true rfl) (Nat.le_of_ble_eq_true rfl) dX4_init_44 (fun q5 H hP hD hS => ?_)
  refine W.widen (k := 5) (n := 1680) (Nat.le_of_ble_eq_true rfl) (Nat.le_of_ble_eq_true rfl) ?_
  have hP : va_P D vwCl [(t, .inr (4, [.ref q1, .ref q2, .ref q3, .ref q4, .null, .null, .int 0, .int 0, .null, .null, .null, .null])), (q1, .inl (cI, 240, .inl (fun _ => 0))), (q2, .inl (cI, 240, .inl (fun _ => 0))), (q3, .inl (cI, 240, .inl (fun _ => 0))), (q4, .inl (cI, 240, .inl (fun _ => 0))), (q5, .inl (cI, 720, .inl (fun _ => 0)))] H := hP
  have hD : va_D A [(t, .inr (4, [.ref q1, .ref q2, .ref q3, .ref q4, .null, .null, .int 0, .int 0, .null, .null, .null, .null])), (q1, .inl (cI, 240, .inl (fun _ => 0))), (q2, .inl (cI, 240, .inl (fun _ => 0))), (q3, .inl (cI, 240, .inl (fun _ => 0))), (q4, .inl (cI, 240, .inl (fun _ => 0))), (q5, .inl (cI, 720, .inl (fun _ => 0)))] := hD
  refine va_putF (D := D) (ci := 4) (v := .ref q5) (ty := (.array .int)) (C := RX4) (T := TX4) (N := 12) hx hb hts in_X4 tyX4 tyX4_ok nmX4 hown hK hP hD hS 0 rfl rfl 4 (by decide) (hts _ kf_X4_26) (fun _ h9 => h9) rfl hin rfl (by decide +kernel) rfl rfl (Nat.le_of_ble_eq_true rfl) dX4_init_46 (fun H locs hP hD hS => ?_)
  have hP : va_P D vwCl [(t, .inr (4, [.ref q1, .ref q2, .ref q3, .ref q4, .ref q5, .null, .int 0, .int 0, .null, .null, .null, .null])), (q1, .inl (cI, 240, .inl (fun _ => 0))), (q2, .inl (cI, 240, .inl (fun _ => 0))), (q3, .inl (cI, 240, .inl (fun _ => 0))), (q4, .inl (cI, 240, .inl (fun _ => 0))), (q5, .inl (cI, 720, .inl (fun _ => 0)))] H := hP
  have hD : va_D A [(t, .inr (4, [.ref q1, .ref q2, .ref q3, .ref q4, .ref q5, .null, .int 0, .int 0, .null, .null, .null, .null])), (q1, .inl (cI, 240, .inl (fun _ => 0))), (q2, .inl (cI, 240, .inl (fun _ => 0))), (q3, .inl (cI, 240, .inl (fun _ => 0))), (q4, .inl (cI, 240, .inl (fun _ => 0))), (q5, .inl (cI, 720, .inl (fun _ => 0)))] := hD
  refine lv_aload_n hx hb dX4_init_49 rfl (lv_at hl 0 rfl) ?_
  refine lv_sipush (v := (241 : Int32)) hx hb dX4_init_50 (by decide) ?_
  refine k_newa (atype := .int) (ty1 := .int) (N' := 241) hx hb (hts _ k_acI) 1 rfl (fun _ h => h) rfl hK hP hD hS hA rfl (by decide) (by decide) (by decide) (Nat.le_of_ble_eq_true rfl) (Nat.le_of_ble_eq_true rfl) dX4_init_53 (fun q6 H hP hD hS => ?_)
  refine W.widen (k := 6) (n := 1921) (Nat.le_of_ble_eq_true rfl) (Nat.le_of_ble_eq_true rfl) ?_
  have hP : va_P D vwCl [(t, .inr (4, [.ref q1, .ref q2, .ref q3, .ref q4, .ref q5, .null, .int 0, .int 0, .null, .null, .null, .null])), (q1, .inl (cI, 240, .inl (fun _ => 0))), (q2, .inl (cI, 240, .inl (fun _ => 0))), (q3, .inl (cI, 240, .inl (fun _ => 0))), (q4, .inl (cI, 240, .inl (fun _ => 0))), (q5, .inl (cI, 720, .inl (fun _ => 0))), (q6, .inl (cI, 241, .inl (fun _ => 0)))] H := hP
  have hD : va_D A [(t, .inr (4, [.ref q1, .ref q2, .ref q3, .ref q4, .ref q5, .null, .int 0, .int 0, .null, .null, .null, .null])), (q1, .inl (cI, 240, .inl (fun _ => 0))), (q2, .inl (cI, 240, .inl (fun _ => 0))), (q3, .inl (cI, 240, .inl (fun _ => 0))), (q4, .inl (cI, 240, .inl (fun _ => 0))), (q5, .inl (cI, 720, .inl (fun _ => 0))), (q6, .inl (cI, 241, .inl (fun _ => 0)))] := hD
  refine va_putF (D := D) (ci := 4) (v := .ref q6) (ty := (.array .int)) (C := RX4) (T := TX4) (N := 12) hx hb hts in_X4 tyX4 tyX4_ok nmX4 hown hK hP hD hS 0 rfl rfl 5 (by decide) (hts _ kf_X4_29) (fun _ h9 => h9) rfl hin rfl (by decide +kernel) rfl rfl (Nat.le_of_ble_eq_true rfl) dX4_init_55 (fun H locs hP hD hS => ?_)
  have hP : va_P D vwCl [(t, .inr (4, [.ref q1, .ref q2, .ref q3, .ref q4, .ref q5, .ref q6, .int 0, .int 0, .null, .null, .null, .null])), (q1, .inl (cI, 240, .inl (fun _ => 0))), (q2, .inl (cI, 240, .inl (fun _ => 0))), (q3, .inl (cI, 240, .inl (fun _ => 0))), (q4, .inl (cI, 240, .inl (fun _ => 0))), (q5, .inl (cI, 720, .inl (fun _ => 0))), (q6, .inl (cI, 241, .inl (fun _ => 0)))] H := hP
  have hD : va_D A [(t, .inr (4, [.ref q1, .ref q2, .ref q3, .ref q4, .ref q5, .ref q6, .int 0, .int 0, .null, .null, .null, .null])), (q1, .inl (cI, 240, .inl (fun _ => 0))), (q2, .inl (cI, 240, .inl (fun _ => 0))), (q3, .inl (cI, 240, .inl (fun _ => 0))), (q4, .inl (cI, 240, .inl (fun _ => 0))), (q5, .inl (cI, 720, .inl (fun _ => 0))), (q6, .inl (cI, 241, .inl (fun _ => 0)))] := hD
  refine lv_aload_n hx hb dX4_init_58 rfl (lv_at hl 0 rfl) ?_
  refine lv_iconst (v := (0 : Int32)) hx hb dX4_init_59 (by decide) ?_
  refine va_put (D := D) (ci := 4) (v := .int (0 : Int32)) (ty := (.int)) (C := RX4) (T := TX4) (N := 12) hx hb hts in_X4 tyX4 tyX4_ok nmX4 hown hK hP hD hS 0 rfl rfl 6 (by decide) (hts _ kf_X4_32) (fun _ h9 => h9) rfl (by decide +kernel) rfl rfl (Nat.le_of_ble_eq_true rfl) dX4_init_60 (fun H locs hP hD hS => ?_)
  have hP : va_P D vwCl [(t, .inr (4, [.ref q1, .ref q2, .ref q3, .ref q4, .ref q5, .ref q6, .int (0 : Int32), .int 0, .null, .null, .null, .null])), (q1, .inl (cI, 240, .inl (fun _ => 0))), (q2, .inl (cI, 240, .inl (fun _ => 0))), (q3, .inl (cI, 240, .inl (fun _ => 0))), (q4, .inl (cI, 240, .inl (fun _ => 0))), (q5, .inl (cI, 720, .inl (fun _ => 0))), (q6, .inl (cI, 241, .inl (fun _ => 0)))] H := hP
  have hD : va_D A [(t, .inr (4, [.ref q1, .ref q2, .ref q3, .ref q4, .ref q5, .ref q6, .int (0 : Int32), .int 0, .null, .null, .null, .null])), (q1, .inl (cI, 240, .inl (fun _ => 0))), (q2, .inl (cI, 240, .inl (fun _ => 0))), (q3, .inl (cI, 240, .inl (fun _ => 0))), (q4, .inl (cI, 240, .inl (fun _ => 0))), (q5, .inl (cI, 720, .inl (fun _ => 0))), (q6, .inl (cI, 241, .inl (fun _ => 0)))] := hD
  refine lv_aload_n hx hb dX4_init_63 rfl (lv_at hl 0 rfl) ?_
  refine lv_iconst (v := (0 : Int32)) hx hb dX4_init_64 (by decide) ?_
  refine va_put (D := D) (ci := 4) (v := .int (0 : Int32)) (ty := (.int)) (C := RX4) (T := TX4) (N := 12) hx hb hts in_X4 tyX4 tyX4_ok nmX4 hown hK hP hD hS 0 rfl rfl 7 (by decide) (hts _ kf_X4_36) (fun _ h9 => h9) rfl (by decide +kernel) rfl rfl (Nat.le_of_ble_eq_true rfl) dX4_init_65 (fun H locs hP hD hS => ?_)
  have hP : va_P D vwCl [(t, .inr (4, [.ref q1, .ref q2, .ref q3, .ref q4, .ref q5, .ref q6, .int (0 : Int32), .int (0 : Int32), .null, .null, .null, .null])), (q1, .inl (cI, 240, .inl (fun _ => 0))), (q2, .inl (cI, 240, .inl (fun _ => 0))), (q3, .inl (cI, 240, .inl (fun _ => 0))), (q4, .inl (cI, 240, .inl (fun _ => 0))), (q5, .inl (cI, 720, .inl (fun _ => 0))), (q6, .inl (cI, 241, .inl (fun _ => 0)))] H := hP
  have hD : va_D A [(t, .inr (4, [.ref q1, .ref q2, .ref q3, .ref q4, .ref q5, .ref q6, .int (0 : Int32), .int (0 : Int32), .null, .null, .null, .null])), (q1, .inl (cI, 240, .inl (fun _ => 0))), (q2, .inl (cI, 240, .inl (fun _ => 0))), (q3, .inl (cI, 240, .inl (fun _ => 0))), (q4, .inl (cI, 240, .inl (fun _ => 0))), (q5, .inl (cI, 720, .inl (fun _ => 0))), (q6, .inl (cI, 241, .inl (fun _ => 0)))] := hD
  refine lv_aload_n hx hb dX4_init_68 rfl (lv_at hl 0 rfl) ?_
  refine lv_bipush (v := (10 : Int32)) hx hb dX4_init_69 (by decide) ?_
  refine k_newa (atype := .int) (ty1 := .int) (N' := 10) hx hb (hts _ k_acI) 1 rfl (fun _ h => h) rfl hK hP hD hS hA rfl (by decide) (by decide) (by decide) (Nat.le_of_ble_eq_true rfl) (Nat.le_of_ble_eq_true rfl) dX4_init_71 (fun q7 H hP hD hS => ?_)
  refine W.widen (k := 7) (n := 1931) (Nat.le_of_ble_eq_true rfl) (Nat.le_of_ble_eq_true rfl) ?_
  have hP : va_P D vwCl [(t, .inr (4, [.ref q1, .ref q2, .ref q3, .ref q4, .ref q5, .ref q6, .int (0 : Int32), .int (0 : Int32), .null, .null, .null, .null])), (q1, .inl (cI, 240, .inl (fun _ => 0))), (q2, .inl (cI, 240, .inl (fun _ => 0))), (q3, .inl (cI, 240, .inl (fun _ => 0))), (q4, .inl (cI, 240, .inl (fun _ => 0))), (q5, .inl (cI, 720, .inl (fun _ => 0))), (q6, .inl (cI, 241, .inl (fun _ => 0))), (q7, .inl (cI, 10, .inl (fun _ => 0)))] H := hP
  have hD : va_D A [(t, .inr (4, [.ref q1, .ref q2, .ref q3, .ref q4, .ref q5, .ref q6, .int (0 : Int32), .int (0 : Int32), .null, .null, .null, .null])), (q1, .inl (cI, 240, .inl (fun _ => 0))), (q2, .inl (cI, 240, .inl (fun _ => 0))), (q3, .inl (cI, 240, .inl (fun _ => 0))), (q4, .inl (cI, 240, .inl (fun _ => 0))), (q5, .inl (cI, 720, .inl (fun _ => 0))), (q6, .inl (cI, 241, .inl (fun _ => 0))), (q7, .inl (cI, 10, .inl (fun _ => 0)))] := hD
  refine va_putF (D := D) (ci := 4) (v := .ref q7) (ty := (.array .int)) (C := RX4) (T := TX4) (N := 12) hx hb hts in_X4 tyX4 tyX4_ok nmX4 hown hK hP hD hS 0 rfl rfl 8 (by decide) (hts _ kf_X4_39) (fun _ h9 => h9) rfl hin rfl (by decide +kernel) rfl rfl (Nat.le_of_ble_eq_true rfl) dX4_init_73 (fun H locs hP hD hS => ?_)
  have hP : va_P D vwCl [(t, .inr (4, [.ref q1, .ref q2, .ref q3, .ref q4, .ref q5, .ref q6, .int (0 : Int32), .int (0 : Int32), .ref q7, .null, .null, .null])), (q1, .inl (cI, 240, .inl (fun _ => 0))), (q2, .inl (cI, 240, .inl (fun _ => 0))), (q3, .inl (cI, 240, .inl (fun _ => 0))), (q4, .inl (cI, 240, .inl (fun _ => 0))), (q5, .inl (cI, 720, .inl (fun _ => 0))), (q6, .inl (cI, 241, .inl (fun _ => 0))), (q7, .inl (cI, 10, .inl (fun _ => 0)))] H := hP
  have hD : va_D A [(t, .inr (4, [.ref q1, .ref q2, .ref q3, .ref q4, .ref q5, .ref q6, .int (0 : Int32), .int (0 : Int32), .ref q7, .null, .null, .null])), (q1, .inl (cI, 240, .inl (fun _ => 0))), (q2, .inl (cI, 240, .inl (fun _ => 0))), (q3, .inl (cI, 240, .inl (fun _ => 0))), (q4, .inl (cI, 240, .inl (fun _ => 0))), (q5, .inl (cI, 720, .inl (fun _ => 0))), (q6, .inl (cI, 241, .inl (fun _ => 0))), (q7, .inl (cI, 10, .inl (fun _ => 0)))] := hD
  refine lv_aload_n hx hb dX4_init_76 rfl (lv_at hl 0 rfl) ?_
  refine lv_bipush (v := (10 : Int32)) hx hb dX4_init_77 (by decide) ?_
  refine k_newa (atype := .int) (ty1 := .int) (N' := 10) hx hb (hts _ k_acI) 1 rfl (fun _ h => h) rfl hK hP hD hS hA rfl (by decide) (by decide) (by decide) (Nat.le_of_ble_eq_true rfl) (Nat.le_of_ble_eq_true rfl) dX4_init_79 (fun q8 H hP hD hS => ?_)
  refine W.widen (k := 8) (n := 1941) (Nat.le_of_ble_eq_true rfl) (Nat.le_of_ble_eq_true rfl) ?_
  have hP : va_P D vwCl [(t, .inr (4, [.ref q1, .ref q2, .ref q3, .ref q4, .ref q5, .ref q6, .int (0 : Int32), .int (0 : Int32), .ref q7, .null, .null, .null])), (q1, .inl (cI, 240, .inl (fun _ => 0))), (q2, .inl (cI, 240, .inl (fun _ => 0))), (q3, .inl (cI, 240, .inl (fun _ => 0))), (q4, .inl (cI, 240, .inl (fun _ => 0))), (q5, .inl (cI, 720, .inl (fun _ => 0))), (q6, .inl (cI, 241, .inl (fun _ => 0))), (q7, .inl (cI, 10, .inl (fun _ => 0))), (q8, .inl (cI, 10, .inl (fun _ => 0)))] H := hP
  have hD : va_D A [(t, .inr (4, [.ref q1, .ref q2, .ref q3, .ref q4, .ref q5, .ref q6, .int (0 : Int32), .int (0 : Int32), .ref q7, .null, .null, .null])), (q1, .inl (cI, 240, .inl (fun _ => 0))), (q2, .inl (cI, 240, .inl (fun _ => 0))), (q3, .inl (cI, 240, .inl (fun _ => 0))), (q4, .inl (cI, 240, .inl (fun _ => 0))), (q5, .inl (cI, 720, .inl (fun _ => 0))), (q6, .inl (cI, 241, .inl (fun _ => 0))), (q7, .inl (cI, 10, .inl (fun _ => 0))), (q8, .inl (cI, 10, .inl (fun _ => 0)))] := hD
  refine va_putF (D := D) (ci := 4) (v := .ref q8) (ty := (.array .int)) (C := RX4) (T := TX4) (N := 12) hx hb hts in_X4 tyX4 tyX4_ok nmX4 hown hK hP hD hS 0 rfl rfl 9 (by decide) (hts _ kf_X4_42) (fun _ h9 => h9) rfl hin rfl (by decide +kernel) rfl rfl (Nat.le_of_ble_eq_true rfl) dX4_init_81 (fun H locs hP hD hS => ?_)
  have hP : va_P D vwCl [(t, .inr (4, [.ref q1, .ref q2, .ref q3, .ref q4, .ref q5, .ref q6, .int (0 : Int32), .int (0 : Int32), .ref q7, .ref q8, .null, .null])), (q1, .inl (cI, 240, .inl (fun _ => 0))), (q2, .inl (cI, 240, .inl (fun _ => 0))), (q3, .inl (cI, 240, .inl (fun _ => 0))), (q4, .inl (cI, 240, .inl (fun _ => 0))), (q5, .inl (cI, 720, .inl (fun _ => 0))), (q6, .inl (cI, 241, .inl (fun _ => 0))), (q7, .inl (cI, 10, .inl (fun _ => 0))), (q8, .inl (cI, 10, .inl (fun _ => 0)))] H := hP
  have hD : va_D A [(t, .inr (4, [.ref q1, .ref q2, .ref q3, .ref q4, .ref q5, .ref q6, .int (0 : Int32), .int (0 : Int32), .ref q7, .ref q8, .null, .null])), (q1, .inl (cI, 240, .inl (fun _ => 0))), (q2, .inl (cI, 240, .inl (fun _ => 0))), (q3, .inl (cI, 240, .inl (fun _ => 0))), (q4, .inl (cI, 240, .inl (fun _ => 0))), (q5, .inl (cI, 720, .inl (fun _ => 0))), (q6, .inl (cI, 241, .inl (fun _ => 0))), (q7, .inl (cI, 10, .inl (fun _ => 0))), (q8, .inl (cI, 10, .inl (fun _ => 0)))] := hD
  refine lv_aload_n hx hb dX4_init_84 rfl (lv_at hl 0 rfl) ?_
  refine lv_bipush (v := (10 : Int32)) hx hb dX4_init_85 (by decide) ?_
  refine k_newa (atype := .int) (ty1 := .int) (N' := 10) hx hb (hts _ k_acI) 1 rfl (fun _ h => h) rfl hK hP hD hS hA rfl (by decide) (by decide) (by decide) (Nat.le_of_ble_eq_true rfl) (Nat.le_of_ble_eq_true rfl) dX4_init_87 (fun q9 H hP hD hS => ?_)
  refine W.widen (k := 9) (n := 1951) (Nat.le_of_ble_eq_true rfl) (Nat.le_of_ble_eq_true rfl) ?_
  have hP : va_P D vwCl [(t, .inr (4, [.ref q1, .ref q2, .ref q3, .ref q4, .ref q5, .ref q6, .int (0 : Int32), .int (0 : Int32), .ref q7, .ref q8, .null, .null])), (q1, .inl (cI, 240, .inl (fun _ => 0))), (q2, .inl (cI, 240, .inl (fun _ => 0))), (q3, .inl (cI, 240, .inl (fun _ => 0))), (q4, .inl (cI, 240, .inl (fun _ => 0))), (q5, .inl (cI, 720, .inl (fun _ => 0))), (q6, .inl (cI, 241, .inl (fun _ => 0))), (q7, .inl (cI, 10, .inl (fun _ => 0))), (q8, .inl (cI, 10, .inl (fun _ => 0))), (q9, .inl (cI, 10, .inl (fun _ => 0)))] H := hP
  have hD : va_D A [(t, .inr (4, [.ref q1, .ref q2, .ref q3, .ref q4, .ref q5, .ref q6, .int (0 : Int32), .int (0 : Int32), .ref q7, .ref q8, .null, .null])), (q1, .inl (cI, 240, .inl (fun _ => 0))), (q2, .inl (cI, 240, .inl (fun _ => 0))), (q3, .inl (cI, 240, .inl (fun _ => 0))), (q4, .inl (cI, 240, .inl (fun _ => 0))), (q5, .inl (cI, 720, .inl (fun _ => 0))), (q6, .inl (cI, 241, .inl (fun _ => 0))), (q7, .inl (cI, 10, .inl (fun _ => 0))), (q8, .inl (cI, 10, .inl (fun _ => 0))), (q9, .inl (cI, 10, .inl (fun _ => 0)))] := hD
  refine va_putF (D := D) (ci := 4) (v := .ref q9) (ty := (.array .int)) (C := RX4) (T := TX4) (N := 12) hx hb hts in_X4 tyX4 tyX4_ok nmX4 hown hK hP hD hS 0 rfl rfl 10 (by decide) (hts _ kf_X4_45) (fun _ h9 => h9) rfl hin rfl (by decide +kernel) rfl rfl (Nat.le_of_ble_eq_true rfl) dX4_init_89 (fun H locs hP hD hS => ?_)
  have hP : va_P D vwCl [(t, .inr (4, [.ref q1, .ref q2, .ref q3, .ref q4, .ref q5, .ref q6, .int (0 : Int32), .int (0 : Int32), .ref q7, .ref q8, .ref q9, .null])), (q1, .inl (cI, 240, .inl (fun _ => 0))), (q2, .inl (cI, 240, .inl (fun _ => 0))), (q3, .inl (cI, 240, .inl (fun _ => 0))), (q4, .inl (cI, 240, .inl (fun _ => 0))), (q5, .inl (cI, 720, .inl (fun _ => 0))), (q6, .inl (cI, 241, .inl (fun _ => 0))), (q7, .inl (cI, 10, .inl (fun _ => 0))), (q8, .inl (cI, 10, .inl (fun _ => 0))), (q9, .inl (cI, 10, .inl (fun _ => 0)))] H := hP
  have hD : va_D A [(t, .inr (4, [.ref q1, .ref q2, .ref q3, .ref q4, .ref q5, .ref q6, .int (0 : Int32), .int (0 : Int32), .ref q7, .ref q8, .ref q9, .null])), (q1, .inl (cI, 240, .inl (fun _ => 0))), (q2, .inl (cI, 240, .inl (fun _ => 0))), (q3, .inl (cI, 240, .inl (fun _ => 0))), (q4, .inl (cI, 240, .inl (fun _ => 0))), (q5, .inl (cI, 720, .inl (fun _ => 0))), (q6, .inl (cI, 241, .inl (fun _ => 0))), (q7, .inl (cI, 10, .inl (fun _ => 0))), (q8, .inl (cI, 10, .inl (fun _ => 0))), (q9, .inl (cI, 10, .inl (fun _ => 0)))] := hD
  refine lv_aload_n hx hb dX4_init_92 rfl (lv_at hl 0 rfl) ?_
  refine lv_bipush (v := (10 : Int32)) hx hb dX4_init_93 (by decide) ?_
  refine k_newa (atype := .int) (ty1 := .int) (N' := 10) hx hb (hts _ k_acI) 1 rfl (fun _ h => h) rfl hK hP hD hS hA rfl (by decide) (by decide) (by decide) (Nat.le_of_ble_eq_true rfl) (Nat.le_of_ble_eq_true rfl) dX4_init_95 (fun q10 H hP hD hS => ?_)
  refine W.widen (k := 10) (n := 1961) (Nat.le_of_ble_eq_true rfl) (Nat.le_of_ble_eq_true rfl) ?_
  have hP : va_P D vwCl [(t, .inr (4, [.ref q1, .ref q2, .ref q3, .ref q4, .ref q5, .ref q6, .int (0 : Int32), .int (0 : Int32), .ref q7, .ref q8, .ref q9, .null])), (q1, .inl (cI, 240, .inl (fun _ => 0))), (q2, .inl (cI, 240, .inl (fun _ => 0))), (q3, .inl (cI, 240, .inl (fun _ => 0))), (q4, .inl (cI, 240, .inl (fun _ => 0))), (q5, .inl (cI, 720, .inl (fun _ => 0))), (q6, .inl (cI, 241, .inl (fun _ => 0))), (q7, .inl (cI, 10, .inl (fun _ => 0))), (q8, .inl (cI, 10, .inl (fun _ => 0))), (q9, .inl (cI, 10, .inl (fun _ => 0))), (q10, .inl (cI, 10, .inl (fun _ => 0)))] H := hP
  have hD : va_D A [(t, .inr (4, [.ref q1, .ref q2, .ref q3, .ref q4, .ref q5, .ref q6, .int (0 : Int32), .int (0 : Int32), .ref q7, .ref q8, .ref q9, .null])), (q1, .inl (cI, 240, .inl (fun _ => 0))), (q2, .inl (cI, 240, .inl (fun _ => 0))), (q3, .inl (cI, 240, .inl (fun _ => 0))), (q4, .inl (cI, 240, .inl (fun _ => 0))), (q5, .inl (cI, 720, .inl (fun _ => 0))), (q6, .inl (cI, 241, .inl (fun _ => 0))), (q7, .inl (cI, 10, .inl (fun _ => 0))), (q8, .inl (cI, 10, .inl (fun _ => 0))), (q9, .inl (cI, 10, .inl (fun _ => 0))), (q10, .inl (cI, 10, .inl (fun _ => 0)))] := hD
  refine va_putF (D := D) (ci := 4) (v := .ref q10) (ty := (.array .int)) (C := RX4) (T := TX4) (N := 12) hx hb hts in_X4 tyX4 tyX4_ok nmX4 hown hK hP hD hS 0 rfl rfl 11 (by decide) (hts _ kf_X4_48) (fun _ h9 => h9) rfl hin rfl (by decide +kernel) rfl rfl (Nat.le_of_ble_eq_true rfl) dX4_init_97 (fun H locs hP hD hS => ?_)
  have hP : va_P D vwCl [(t, .inr (4, [.ref q1, .ref q2, .ref q3, .ref q4, .ref q5, .ref q6, .int (0 : Int32), .int (0 : Int32), .ref q7, .ref q8, .ref q9, .ref q10])), (q1, .inl (cI, 240, .inl (fun _ => 0))), (q2, .inl (cI, 240, .inl (fun _ => 0))), (q3, .inl (cI, 240, .inl (fun _ => 0))), (q4, .inl (cI, 240, .inl (fun _ => 0))), (q5, .inl (cI, 720, .inl (fun _ => 0))), (q6, .inl (cI, 241, .inl (fun _ => 0))), (q7, .inl (cI, 10, .inl (fun _ => 0))), (q8, .inl (cI, 10, .inl (fun _ => 0))), (q9, .inl (cI, 10, .inl (fun _ => 0))), (q10, .inl (cI, 10, .inl (fun _ => 0)))] H := hP
  have hD : va_D A [(t, .inr (4, [.ref q1, .ref q2, .ref q3, .ref q4, .ref q5, .ref q6, .int (0 : Int32), .int (0 : Int32), .ref q7, .ref q8, .ref q9, .ref q10])), (q1, .inl (cI, 240, .inl (fun _ => 0))), (q2, .inl (cI, 240, .inl (fun _ => 0))), (q3, .inl (cI, 240, .inl (fun _ => 0))), (q4, .inl (cI, 240, .inl (fun _ => 0))), (q5, .inl (cI, 720, .inl (fun _ => 0))), (q6, .inl (cI, 241, .inl (fun _ => 0))), (q7, .inl (cI, 10, .inl (fun _ => 0))), (q8, .inl (cI, 10, .inl (fun _ => 0))), (q9, .inl (cI, 10, .inl (fun _ => 0))), (q10, .inl (cI, 10, .inl (fun _ => 0)))] := hD
  exact k_nret (fun k => [q1, q2, q3, q4, q5, q6, q7, q8, q9, q10].getD k 0) hx hb hr hlocks hK hP hD hS dX4_init_100 hQ rfl
set_option maxRecDepth 100000 in
set_option maxHeartbeats 8000000 in
theorem N_Journal64_init (l : Launch) (D : va_G) (cB cI cZ cJ : ClassId) (t : Nat) : KN l yX3_init cX3_init 2 { frames := 1, cells := 3, slots := 192, locals := 20 } D (kTy cB cI cZ cJ) (fun _ => True) [.ref t, .int (64 : Int32)] [(t, .inr (3, [.null, .null, .null, .int 0]))] (fun ad => [(t, .inr (3, [.ref (ad 0), .ref (ad 1), .ref (ad 2), .int (0 : Int32)])), (ad 0, .inl (cZ, 64, .inl (fun _ => 0))), (ad 1, .inl (cI, 64, .inl (fun _ => 0))), (ad 2, .inl (cI, 64, .inl (fun _ => 0)))]) 3 192 := by
  refine KN.of (by decide +kernel) (Nat.le_of_ble_eq_true rfl) ?_
  intro p e s m below meth c A ls args Q hQ CX hA hK hP hD hl hX hin
  obtain ⟨hx, hb, hr, hml, hown, hts, hlocks⟩ := CX
  have hown : s.vm.findClass RX3 = some m.cls := hown
  have hin : meth.name = "<init>" := hin
  have hS : va_S A s.heap s.heap [] := va_S.rf
  have hl : lv_has ls 2 [(0, .ref t), (1, .int (64 : Int32))] := hl
  refine lv_aload_n hx hb dX3_init_0 rfl (lv_at hl 0 rfl) ?_
  refine W.objInit hx hb hown (hts _ km_X3_1) (hts _ k_oi1) (hts _ k_oi2) rfl (by rw [hml]; exact hl.1) rfl dX3_init_1 (Nat.le_of_ble_eq_true rfl) (Nat.le_of_ble_eq_true rfl) ?_
  refine W.eq (g2 := F0 m 4 ls []) rfl ?_
  refine lv_aload_n hx hb dX3_init_4 rfl (lv_at hl 0 rfl) ?_
  refine lv_iconst (v := (0 : Int32)) hx hb dX3_init_5 (by decide) ?_
  refine va_put (D := D) (ci := 3) (v := .int (0 : Int32)) (ty := (.int)) (C := RX3) (T := TX3) (N := 4) hx hb hts in_X3 tyX3 tyX3_ok nmX3 hown hK hP hD hS 0 rfl rfl 3 (by decide) (hts _ kf_X3_7) (fun _ h9 => h9) rfl (by decide +kernel) rfl rfl (Nat.le_of_ble_eq_true rfl) dX3_init_6 (fun H locs hP hD hS => ?_)
  have hP : va_P D vwCl [(t, .inr (3, [.null, .null, .null, .int (0 : Int32)]))] H := hP
  have hD : va_D A [(t, .inr (3, [.null, .null, .null, .int (0 : Int32)]))] := hD
  refine lv_aload_n hx hb dX3_init_9 rfl (lv_at hl 0 rfl) ?_
  refine lv_iload_n hx hb dX3_init_10 rfl (lv_at hl 1 rfl) ?_
  refine k_newa (atype := .boolean) (ty1 := .boolean) (N' := 64) hx hb (hts _ k_acZ) 2 rfl (fun _ h => h) rfl hK hP hD hS hA rfl (by decide) (by decide) (by decide) (Nat.le_of_ble_eq_true rfl) (Nat.le_of_ble_eq_true rfl) dX3_init_11 (fun q1 H hP hD hS => ?_)
  refine W.widen (k := 1) (n := 64) (Nat.le_of_ble_eq_true rfl) (Nat.le_of_ble_eq_true rfl) ?_
  have hP : va_P D vwCl [(t, .inr (3, [.null, .null, .null, .int (0 : Int32)])), (q1, .inl (cZ, 64, .inl (fun _ => 0)))] H := hP
  have hD : va_D A [(t, .inr (3, [.null, .null, .null, .int (0 : Int32)])), (q1, .inl (cZ, 64, .inl (fun _ => 0)))] := hD
  refine va_putF (D := D) (ci := 3) (v := .ref q1) (ty := (.array .boolean)) (C := RX3) (T := TX3) (N := 4) hx hb hts in_X3 tyX3 tyX3_ok nmX3 hown hK hP hD hS 0 rfl rfl 0 (by decide) (hts _ kf_X3_13) (fun _ h9 => h9) rfl hin rfl (by decide +kernel) rfl rfl (Nat.le_of_ble_eq_true rfl) dX3_init_13 (fun H locs hP hD hS => ?_)
  have hP : va_P D vwCl [(t, .inr (3, [.ref q1, .null, .null, .int (0 : Int32)])), (q1, .inl (cZ, 64, .inl (fun _ => 0)))] H := hP
  have hD : va_D A [(t, .inr (3, [.ref q1, .null, .null, .int (0 : Int32)])), (q1, .inl (cZ, 64, .inl (fun _ => 0)))] := hD
  refine lv_aload_n hx hb dX3_init_16 rfl (lv_at hl 0 rfl) ?_
  refine lv_iload_n hx hb dX3_init_17 rfl (lv_at hl 1 rfl) ?_
  refine k_newa (atype := .int) (ty1 := .int) (N' := 64) hx hb (hts _ k_acI) 1 rfl (fun _ h => h) rfl hK hP hD hS hA rfl (by decide) (by decide) (by decide) (Nat.le_of_ble_eq_true rfl) (Nat.le_of_ble_eq_true rfl) dX3_init_18 (fun q2 H hP hD hS => ?_)
  refine W.widen (k := 2) (n := 128) (Nat.le_of_ble_eq_true rfl) (Nat.le_of_ble_eq_true rfl) ?_
  have hP : va_P D vwCl [(t, .inr (3, [.ref q1, .null, .null, .int (0 : Int32)])), (q1, .inl (cZ, 64, .inl (fun _ => 0))), (q2, .inl (cI, 64, .inl (fun _ => 0)))] H := hP
  have hD : va_D A [(t, .inr (3, [.ref q1, .null, .null, .int (0 : Int32)])), (q1, .inl (cZ, 64, .inl (fun _ => 0))), (q2, .inl (cI, 64, .inl (fun _ => 0)))] := hD
  refine va_putF (D := D) (ci := 3) (v := .ref q2) (ty := (.array .int)) (C := RX3) (T := TX3) (N := 4) hx hb hts in_X3 tyX3 tyX3_ok nmX3 hown hK hP hD hS 0 rfl rfl 1 (by decide) (hts _ kf_X3_17) (fun _ h9 => h9) rfl hin rfl (by decide +kernel) rfl rfl (Nat.le_of_ble_eq_true rfl) dX3_init_20 (fun H locs hP hD hS => ?_)
  have hP : va_P D vwCl [(t, .inr (3, [.ref q1, .ref q2, .null, .int (0 : Int32)])), (q1, .inl (cZ, 64, .inl (fun _ => 0))), (q2, .inl (cI, 64, .inl (fun _ => 0)))] H := hP
  have hD : va_D A [(t, .inr (3, [.ref q1, .ref q2, .null, .int (0 : Int32)])), (q1, .inl (cZ, 64, .inl (fun _ => 0))), (q2, .inl (cI, 64, .inl (fun _ => 0)))] := hD
  refine lv_aload_n hx hb dX3_init_23 rfl (lv_at hl 0 rfl) ?_
  refine lv_iload_n hx hb dX3_init_24 rfl (lv_at hl 1 rfl) ?_
  refine k_newa (atype := .int) (ty1 := .int) (N' := 64) hx hb (hts _ k_acI) 1 rfl (fun _ h => h) rfl hK hP hD hS hA rfl (by decide) (by decide) (by decide) (Nat.le_of_ble_eq_true rfl) (Nat.le_of_ble_eq_true rfl) dX3_init_25 (fun q3 H hP hD hS => ?_)
  refine W.widen (k := 3) (n := 192) (Nat.le_of_ble_eq_true rfl) (Nat.le_of_ble_eq_true rfl) ?_
  have hP : va_P D vwCl [(t, .inr (3, [.ref q1, .ref q2, .null, .int (0 : Int32)])), (q1, .inl (cZ, 64, .inl (fun _ => 0))), (q2, .inl (cI, 64, .inl (fun _ => 0))), (q3, .inl (cI, 64, .inl (fun _ => 0)))] H := hP
  have hD : va_D A [(t, .inr (3, [.ref q1, .ref q2, .null, .int (0 : Int32)])), (q1, .inl (cZ, 64, .inl (fun _ => 0))), (q2, .inl (cI, 64, .inl (fun _ => 0))), (q3, .inl (cI, 64, .inl (fun _ => 0)))] := hD
  refine va_putF (D := D) (ci := 3) (v := .ref q3) (ty := (.array .int)) (C := RX3) (T := TX3) (N := 4) hx hb hts in_X3 tyX3 tyX3_ok nmX3 hown hK hP hD hS 0 rfl rfl 2 (by decide) (hts _ kf_X3_21) (fun _ h9 => h9) rfl hin rfl (by decide +kernel) rfl rfl (Nat.le_of_ble_eq_true rfl) dX3_init_27 (fun H locs hP hD hS => ?_)
  have hP : va_P D vwCl [(t, .inr (3, [.ref q1, .ref q2, .ref q3, .int (0 : Int32)])), (q1, .inl (cZ, 64, .inl (fun _ => 0))), (q2, .inl (cI, 64, .inl (fun _ => 0))), (q3, .inl (cI, 64, .inl (fun _ => 0)))] H := hP
  have hD : va_D A [(t, .inr (3, [.ref q1, .ref q2, .ref q3, .int (0 : Int32)])), (q1, .inl (cZ, 64, .inl (fun _ => 0))), (q2, .inl (cI, 64, .inl (fun _ => 0))), (q3, .inl (cI, 64, .inl (fun _ => 0)))] := hD
  exact k_nret (fun k => [q1, q2, q3].getD k 0) hx hb hr hlocks hK hP hD hS dX3_init_30 hQ rfl
set_option maxRecDepth 100000 in
set_option maxHeartbeats 8000000 in
theorem N_Journal96_init (l : Launch) (D : va_G) (cB cI cZ cJ : ClassId) (t : Nat) : KN l yX3_init cX3_init 2 { frames := 1, cells := 3, slots := 288, locals := 20 } D (kTy cB cI cZ cJ) (fun _ => True) [.ref t, .int (96 : Int32)] [(t, .inr (3, [.null, .null, .null, .int 0]))] (fun ad => [(t, .inr (3, [.ref (ad 0), .ref (ad 1), .ref (ad 2), .int (0 : Int32)])), (ad 0, .inl (cZ, 96, .inl (fun _ => 0))), (ad 1, .inl (cI, 96, .inl (fun _ => 0))), (ad 2, .inl (cI, 96, .inl (fun _ => 0)))]) 3 288 := by
  refine KN.of (by decide +kernel) (Nat.le_of_ble_eq_true rfl) ?_
  intro p e s m below meth c A ls args Q hQ CX hA hK hP hD hl hX hin
  obtain ⟨hx, hb, hr, hml, hown, hts, hlocks⟩ := CX
  have hown : s.vm.findClass RX3 = some m.cls := hown
  have hin : meth.name = "<init>" := hin
  have hS : va_S A s.heap s.heap [] := va_S.rf
  have hl : lv_has ls 2 [(0, .ref t), (1, .int (96 : Int32))] := hl
  refine lv_aload_n hx hb dX3_init_0 rfl (lv_at hl 0 rfl) ?_
  refine W.objInit hx hb hown (hts _ km_X3_1) (hts _ k_oi1) (hts _ k_oi2) rfl (by rw [hml]; exact hl.1) rfl dX3_init_1 (Nat.le_of_ble_eq_true rfl) (Nat.le_of_ble_eq_true rfl) ?_
  refine W.eq (g2 := F0 m 4 ls []) rfl ?_
  refine lv_aload_n hx hb dX3_init_4 rfl (lv_at hl 0 rfl) ?_
  refine lv_iconst (v := (0 : Int32)) hx hb dX3_init_5 (by decide) ?_
  refine va_put (D := D) (ci := 3) (v := .int (0 : Int32)) (ty := (.int)) (C := RX3) (T := TX3) (N := 4) hx hb hts in_X3 tyX3 tyX3_ok nmX3 hown hK hP hD hS 0 rfl rfl 3 (by decide) (hts _ kf_X3_7) (fun _ h9 => h9) rfl (by decide +kernel) rfl rfl (Nat.le_of_ble_eq_true rfl) dX3_init_6 (fun H locs hP hD hS => ?_)
  have hP : va_P D vwCl [(t, .inr (3, [.null, .null, .null, .int (0 : Int32)]))] H := hP
  have hD : va_D A [(t, .inr (3, [.null, .null, .null, .int (0 : Int32)]))] := hD
  refine lv_aload_n hx hb dX3_init_9 rfl (lv_at hl 0 rfl) ?_
  refine lv_iload_n hx hb dX3_init_10 rfl (lv_at hl 1 rfl) ?_
  refine k_newa (atype := .boolean) (ty1 := .boolean) (N' := 96) hx hb (hts _ k_acZ) 2 rfl (fun _ h => h) rfl hK hP hD hS hA rfl (by decide) (by decide) (by decide) (Nat.le_of_ble_eq_true rfl) (Nat.le_of_ble_eq_true rfl) dX3_init_11 (fun q1 H hP hD hS => ?_)
  refine W.widen (k := 1) (n := 96) (Nat.le_of_ble_eq_true rfl) (Nat.le_of_ble_eq_true rfl) ?_
  have hP : va_P D vwCl [(t, .inr (3, [.null, .null, .null, .int (0 : Int32)])), (q1, .inl (cZ, 96, .inl (fun _ => 0)))] H := hP
  have hD : va_D A [(t, .inr (3, [.null, .null, .null, .int (0 : Int32)])), (q1, .inl (cZ, 96, .inl (fun _ => 0)))] := hD
  refine va_putF (D := D) (ci := 3) (v := .ref q1) (ty := (.array .boolean)) (C := RX3) (T := TX3) (N := 4) hx hb hts in_X3 tyX3 tyX3_ok nmX3 hown hK hP hD hS 0 rfl rfl 0 (by decide) (hts _ kf_X3_13) (fun _ h9 => h9) rfl hin rfl (by decide +kernel) rfl rfl (Nat.le_of_ble_eq_true rfl) dX3_init_13 (fun H locs hP hD hS => ?_)
  have hP : va_P D vwCl [(t, .inr (3, [.ref q1, .null, .null, .int (0 : Int32)])), (q1, .inl (cZ, 96, .inl (fun _ => 0)))] H := hP
  have hD : va_D A [(t, .inr (3, [.ref q1, .null, .null, .int (0 : Int32)])), (q1, .inl (cZ, 96, .inl (fun _ => 0)))] := hD
  refine lv_aload_n hx hb dX3_init_16 rfl (lv_at hl 0 rfl) ?_
  refine lv_iload_n hx hb dX3_init_17 rfl (lv_at hl 1 rfl) ?_
  refine k_newa (atype := .int) (ty1 := .int) (N' := 96) hx hb (hts _ k_acI) 1 rfl (fun _ h => h) rfl hK hP hD hS hA rfl (by decide) (by decide) (by decide) (Nat.le_of_ble_eq_true rfl) (Nat.le_of_ble_eq_true rfl) dX3_init_18 (fun q2 H hP hD hS => ?_)
  refine W.widen (k := 2) (n := 192) (Nat.le_of_ble_eq_true rfl) (Nat.le_of_ble_eq_true rfl) ?_
  have hP : va_P D vwCl [(t, .inr (3, [.ref q1, .null, .null, .int (0 : Int32)])), (q1, .inl (cZ, 96, .inl (fun _ => 0))), (q2, .inl (cI, 96, .inl (fun _ => 0)))] H := hP
  have hD : va_D A [(t, .inr (3, [.ref q1, .null, .null, .int (0 : Int32)])), (q1, .inl (cZ, 96, .inl (fun _ => 0))), (q2, .inl (cI, 96, .inl (fun _ => 0)))] := hD
  refine va_putF (D := D) (ci := 3) (v := .ref q2) (ty := (.array .int)) (C := RX3) (T := TX3) (N := 4) hx hb hts in_X3 tyX3 tyX3_ok nmX3 hown hK hP hD hS 0 rfl rfl 1 (by decide) (hts _ kf_X3_17) (fun _ h9 => h9) rfl hin rfl (by decide +kernel) rfl rfl (Nat.le_of_ble_eq_true rfl) dX3_init_20 (fun H locs hP hD hS => ?_)
  have hP : va_P D vwCl [(t, .inr (3, [.ref q1, .ref q2, .null, .int (0 : Int32)])), (q1, .inl (cZ, 96, .inl (fun _ => 0))), (q2, .inl (cI, 96, .inl (fun _ => 0)))] H := hP
  have hD : va_D A [(t, .inr (3, [.ref q1, .ref q2, .null, .int (0 : Int32)])), (q1, .inl (cZ, 96, .inl (fun _ => 0))), (q2, .inl (cI, 96, .inl (fun _ => 0)))] := hD
  refine lv_aload_n hx hb dX3_init_23 rfl (lv_at hl 0 rfl) ?_
  refine lv_iload_n hx hb dX3_init_24 rfl (lv_at hl 1 rfl) ?_
  refine k_newa (atype := .int) (ty1 := .int) (N' := 96) hx hb (hts _ k_acI) 1 rfl (fun _ h => h) rfl hK hP hD hS hA rfl (by decide) (by decide) (by decide) (Nat.le_of_ble_eq_true rfl) (Nat.le_of_ble_eq_true rfl) dX3_init_25 (fun q3 H hP hD hS => ?_)
  refine W.widen (k := 3) (n := 288) (Nat.le_of_ble_eq_true rfl) (Nat.le_of_ble_eq_true rfl) ?_
  have hP : va_P D vwCl [(t, .inr (3, [.ref q1, .ref q2, .null, .int (0 : Int32)])), (q1, .inl (cZ, 96, .inl (fun _ => 0))), (q2, .inl (cI, 96, .inl (fun _ => 0))), (q3, .inl (cI, 96, .inl (fun _ => 0)))] H := hP
  have hD : va_D A [(t, .inr (3, [.ref q1, .ref q2, .null, .int (0 : Int32)])), (q1, .inl (cZ, 96, .inl (fun _ => 0))), (q2, .inl (cI, 96, .inl (fun _ => 0))), (q3, .inl (cI, 96, .inl (fun _ => 0)))] := hD
  refine va_putF (D := D) (ci := 3) (v := .ref q3) (ty := (.array .int)) (C := RX3) (T := TX3) (N := 4) hx hb hts in_X3 tyX3 tyX3_ok nmX3 hown hK hP hD hS 0 rfl rfl 2 (by decide) (hts _ kf_X3_21) (fun _ h9 => h9) rfl hin rfl (by decide +kernel) rfl rfl (Nat.le_of_ble_eq_true rfl) dX3_init_27 (fun H locs hP hD hS => ?_)
  have hP : va_P D vwCl [(t, .inr (3, [.ref q1, .ref q2, .ref q3, .int (0 : Int32)])), (q1, .inl (cZ, 96, .inl (fun _ => 0))), (q2, .inl (cI, 96, .inl (fun _ => 0))), (q3, .inl (cI, 96, .inl (fun _ => 0)))] H := hP
  have hD : va_D A [(t, .inr (3, [.ref q1, .ref q2, .ref q3, .int (0 : Int32)])), (q1, .inl (cZ, 96, .inl (fun _ => 0))), (q2, .inl (cI, 96, .inl (fun _ => 0))), (q3, .inl (cI, 96, .inl (fun _ => 0)))] := hD
  exact k_nret (fun k => [q1, q2, q3].getD k 0) hx hb hr hlocks hK hP hD hS dX3_init_30 hQ rfl
set_option maxRecDepth 100000 in
set_option maxHeartbeats 8000000 in
theorem N_Reader_init (l : Launch) (D : va_G) (cB cI cZ cJ : ClassId) (t : Nat) (tp : Nat) (pr : Nat) : KN l yX5_init cX5_init 3 { frames := 1, cells := 0, slots := 0, locals := 20 } D (kTy cB cI cZ cJ) (fun _ => True) [.ref t, .ref tp, .ref pr] [(t, .inr (5, [.null, .null, .int 0, .int 0]))] (fun ad => [(t, .inr (5, [.ref tp, .ref pr, .int (0 : Int32), .int (-1 : Int32)]))]) 0 0 := by
  refine KN.of (by decide +kernel) (Nat.le_of_ble_eq_true rfl) ?_
  intro p e s m below meth c A ls args Q hQ CX hA hK hP hD hl hX hin
  obtain ⟨hx, hb, hr, hml, hown, hts, hlocks⟩ := CX
  have hown : s.vm.findClass RX5 = some m.cls := hown
  have hin : meth.name = "<init>" := hin
  have hS : va_S A s.heap s.heap [] := va_S.rf
  have hl : lv_has ls 3 [(0, .ref t), (1, .ref tp), (2, .ref pr)] := hl
  refine lv_aload_n hx hb dX5_init_0 rfl (lv_at hl 0 rfl) ?_
  refine W.objInit hx hb hown (hts _ km_X5_3) (hts _ k_oi1) (hts _ k_oi2) rfl (by rw [hml]; exact hl.1) rfl dX5_init_1 (Nat.le_of_ble_eq_true rfl) (Nat.le_of_ble_eq_true rfl) ?_
  refine W.eq (g2 := F0 m 4 ls []) rfl ?_
  refine lv_aload_n hx hb dX5_init_4 rfl (lv_at hl 0 rfl) ?_
  refine lv_iconst (v := (0 : Int32)) hx hb dX5_init_5 (by decide) ?_
  refine va_put (D := D) (ci := 5) (v := .int (0 : Int32)) (ty := (.int)) (C := RX5) (T := TX5) (N := 4) hx hb hts in_X5 tyX5 tyX5_ok nmX5 hown hK hP hD hS 0 rfl rfl 2 (by decide) (hts _ kf_X5_9) (fun _ h9 => h9) rfl (by decide +kernel) rfl rfl (Nat.le_of_ble_eq_true rfl) dX5_init_6 (fun H locs hP hD hS => ?_)
  have hP : va_P D vwCl [(t, .inr (5, [.null, .null, .int (0 : Int32), .int 0]))] H := hP
  have hD : va_D A [(t, .inr (5, [.null, .null, .int (0 : Int32), .int 0]))] := hD
  refine lv_aload_n hx hb dX5_init_9 rfl (lv_at hl 0 rfl) ?_
  refine lv_iconst (v := (-1 : Int32)) hx hb dX5_init_10 (by decide) ?_
  refine va_put (D := D) (ci := 5) (v := .int (-1 : Int32)) (ty := (.int)) (C := RX5) (T := TX5) (N := 4) hx hb hts in_X5 tyX5 tyX5_ok nmX5 hown hK hP hD hS 0 rfl rfl 3 (by decide) (hts _ kf_X5_15) (fun _ h9 => h9) rfl (by decide +kernel) rfl rfl (Nat.le_of_ble_eq_true rfl) dX5_init_11 (fun H locs hP hD hS => ?_)
  have hP : va_P D vwCl [(t, .inr (5, [.null, .null, .int (0 : Int32), .int (-1 : Int32)]))] H := hP
  have hD : va_D A [(t, .inr (5, [.null, .null, .int (0 : Int32), .int (-1 : Int32)]))] := hD
  refine lv_aload_n hx hb dX5_init_14 rfl (lv_at hl 0 rfl) ?_
  refine lv_aload_n hx hb dX5_init_15 rfl (lv_at hl 1 rfl) ?_
  refine va_putF (D := D) (ci := 5) (v := .ref tp) (ty := (.object "RuleHall$Tape")) (C := RX5) (T := TX5) (N := 4) hx hb hts in_X5 tyX5 tyX5_ok nmX5 hown hK hP hD hS 0 rfl rfl 0 (by decide) (hts _ kf_X5_18) (fun _ h9 => h9) rfl hin rfl (by decide +kernel) rfl rfl (Nat.le_of_ble_eq_true rfl) dX5_init_16 (fun H locs hP hD hS => ?_)
  have hP : va_P D vwCl [(t, .inr (5, [.ref tp, .null, .int (0 : Int32), .int (-1 : Int32)]))] H := hP
  have hD : va_D A [(t, .inr (5, [.ref tp, .null, .int (0 : Int32), .int (-1 : Int32)]))] := hD
  refine lv_aload_n hx hb dX5_init_19 rfl (lv_at hl 0 rfl) ?_
  refine lv_aload_n hx hb dX5_init_20 rfl (lv_at hl 2 rfl) ?_
  refine va_put (D := D) (ci := 5) (v := .ref pr) (ty := (.object "RuleHall$Program")) (C := RX5) (T := TX5) (N := 4) hx hb hts in_X5 tyX5 tyX5_ok nmX5 hown hK hP hD hS 0 rfl rfl 1 (by decide) (hts _ kf_X5_22) (fun _ h9 => h9) rfl (by decide +kernel) rfl rfl (Nat.le_of_ble_eq_true rfl) dX5_init_21 (fun H locs hP hD hS => ?_)
  have hP : va_P D vwCl [(t, .inr (5, [.ref tp, .ref pr, .int (0 : Int32), .int (-1 : Int32)]))] H := hP
  have hD : va_D A [(t, .inr (5, [.ref tp, .ref pr, .int (0 : Int32), .int (-1 : Int32)]))] := hD
  exact k_nret (fun k => [].getD k 0) hx hb hr hlocks hK hP hD hS dX5_init_24 hQ rfl
