set_option maxRecDepth 100000 in
set_option maxHeartbeats 8000000 in
theorem N_Search_init (l : Launch) (D : va_G) (cB cI cZ cJ : ClassId) (t : Nat) (pr : Nat) (fa : Nat) (fr : Nat) (la : Nat) : KN l yX6_init cX6_init 6 { frames := 1, cells := 2, slots := 43, locals := 20 } D (kTy cB cI cZ cJ) (fun _ => True) [.ref t, .ref pr, .ref fa, .ref fr, .ref la] [(t, .inr (6, [.null, .null, .null, .null, .null, .null, .int 0, .int 0, .int 0, .int 0, .int 0, .int 0]))] (fun ad => [(t, .inr (6, [.ref fa, .ref fr, .ref la, .ref (ad 0), .ref (ad 1), .ref pr, .int (0 : Int32), .int (0 : Int32), .int (0 : Int32), .int (-1 : Int32), .int (0 : Int32), .int (0 : Int32)])), (ad 0, .inl (cI, 38, .inl (kValue0))), (ad 1, .inl (cI, 5, .inl (fun _ => 0)))]) 2 43 := by
  refine KN.of (by decide +kernel) (Nat.le_of_ble_eq_true rfl) ?_
  intro p e s m below meth c A ls args Q hQ CX hA hK hP hD hl hX hin
  obtain ⟨hx, hb, hr, hml, hown, hts, hlocks⟩ := CX
  have hown : s.vm.findClass RX6 = some m.cls := hown
  have hin : meth.name = "<init>" := hin
  have hS : va_S A s.heap s.heap [] := va_S.rf
  have hl : lv_has ls 6 [(0, .ref t), (1, .ref pr), (2, .ref fa), (3, .ref fr), (4, .ref la)] := hl
  refine lv_aload_n hx hb dX6_init_0 rfl (lv_at hl 0 rfl) ?_
  refine W.objInit hx hb hown (hts _ km_X6_3) (hts _ k_oi1) (hts _ k_oi2) rfl (by rw [hml]; exact hl.1) rfl dX6_init_1 (Nat.le_of_ble_eq_true rfl) (Nat.le_of_ble_eq_true rfl) ?_
  refine W.eq (g2 := F0 m 4 ls []) rfl ?_
  refine lv_aload_n hx hb dX6_init_4 rfl (lv_at hl 0 rfl) ?_
  refine lv_bipush (v := (38 : Int32)) hx hb dX6_init_5 (by decide) ?_
  refine k_newa (atype := .int) (ty1 := .int) (N' := 38) hx hb (hts _ k_acI) 1 rfl (fun _ h => h) rfl hK hP hD hS hA rfl (by decide) (by decide) (by decide) (Nat.le_of_ble_eq_true rfl) (Nat.le_of_ble_eq_true rfl) dX6_init_7 (fun q1 H hP hD hS => ?_)
  refine W.widen (k := 1) (n := 38) (Nat.le_of_ble_eq_true rfl) (Nat.le_of_ble_eq_true rfl) ?_
  have hP : va_P D vwCl [(t, .inr (6, [.null, .null, .null, .null, .null, .null, .int 0, .int 0, .int 0, .int 0, .int 0, .int 0])), (q1, .inl (cI, 38, .inl (fun _ => 0)))] H := hP
  have hD : va_D A [(t, .inr (6, [.null, .null, .null, .null, .null, .null, .int 0, .int 0, .int 0, .int 0, .int 0, .int 0])), (q1, .inl (cI, 38, .inl (fun _ => 0)))] := hD
  refine va_putF (D := D) (ci := 6) (v := .ref q1) (ty := (.array .int)) (C := RX6) (T := TX6) (N := 12) hx hb hts in_X6 tyX6 tyX6_ok nmX6 hown hK hP hD hS 0 rfl rfl 3 (by decide) (hts _ kf_X6_9) (fun _ h9 => h9) rfl hin rfl (by decide +kernel) rfl rfl (Nat.le_of_ble_eq_true rfl) dX6_init_9 (fun H locs hP hD hS => ?_)
  have hP : va_P D vwCl [(t, .inr (6, [.null, .null, .null, .ref q1, .null, .null, .int 0, .int 0, .int 0, .int 0, .int 0, .int 0])), (q1, .inl (cI, 38, .inl (fun _ => 0)))] H := hP
  have hD : va_D A [(t, .inr (6, [.null, .null, .null, .ref q1, .null, .null, .int 0, .int 0, .int 0, .int 0, .int 0, .int 0])), (q1, .inl (cI, 38, .inl (fun _ => 0)))] := hD
  refine lv_aload_n hx hb dX6_init_12 rfl (lv_at hl 0 rfl) ?_
  refine lv_iconst (v := (5 : Int32)) hx hb dX6_init_13 (by decide) ?_
  refine k_newa (atype := .int) (ty1 := .int) (N' := 5) hx hb (hts _ k_acI) 1 rfl (fun _ h => h) rfl hK hP hD hS hA rfl (by decide) (by decide) (by decide) (Nat.le_of_ble_eq_true rfl) (Nat.le_of_ble_eq_true rfl) dX6_init_14 (fun q2 H hP hD hS => ?_)
  refine W.widen (k := 2) (n := 43) (Nat.le_of_ble_eq_true rfl) (Nat.le_of_ble_eq_true rfl) ?_
  have hP : va_P D vwCl [(t, .inr (6, [.null, .null, .null, .ref q1, .null, .null, .int 0, .int 0, .int 0, .int 0, .int 0, .int 0])), (q1, .inl (cI, 38, .inl (fun _ => 0))), (q2, .inl (cI, 5, .inl (fun _ => 0)))] H := hP
  have hD : va_D A [(t, .inr (6, [.null, .null, .null, .ref q1, .null, .null, .int 0, .int 0, .int 0, .int 0, .int 0, .int 0])), (q1, .inl (cI, 38, .inl (fun _ => 0))), (q2, .inl (cI, 5, .inl (fun _ => 0)))] := hD
  refine va_putF (D := D) (ci := 6) (v := .ref q2) (ty := (.array .int)) (C := RX6) (T := TX6) (N := 12) hx hb hts in_X6 tyX6 tyX6_ok nmX6 hown hK hP hD hS 0 rfl rfl 4 (by decide) (hts _ kf_X6_15) (fun _ h9 => h9) rfl hin rfl (by decide +kernel) rfl rfl (Nat.le_of_ble_eq_true rfl) dX6_init_16 (fun H locs hP hD hS => ?_)
  have hP : va_P D vwCl [(t, .inr (6, [.null, .null, .null, .ref q1, .ref q2, .null, .int 0, .int 0, .int 0, .int 0, .int 0, .int 0])), (q1, .inl (cI, 38, .inl (fun _ => 0))), (q2, .inl (cI, 5, .inl (fun _ => 0)))] H := hP
  have hD : va_D A [(t, .inr (6, [.null, .null, .null, .ref q1, .ref q2, .null, .int 0, .int 0, .int 0, .int 0, .int 0, .int 0])), (q1, .inl (cI, 38, .inl (fun _ => 0))), (q2, .inl (cI, 5, .inl (fun _ => 0)))] := hD
  refine lv_aload_n hx hb dX6_init_19 rfl (lv_at hl 0 rfl) ?_
  refine lv_iconst (v := (0 : Int32)) hx hb dX6_init_20 (by decide) ?_
  refine va_put (D := D) (ci := 6) (v := .int (0 : Int32)) (ty := (.int)) (C := RX6) (T := TX6) (N := 12) hx hb hts in_X6 tyX6 tyX6_ok nmX6 hown hK hP hD hS 0 rfl rfl 6 (by decide) (hts _ kf_X6_18) (fun _ h9 => h9) rfl (by decide +kernel) rfl rfl (Nat.le_of_ble_eq_true rfl) dX6_init_21 (fun H locs hP hD hS => ?_)
  have hP : va_P D vwCl [(t, .inr (6, [.null, .null, .null, .ref q1, .ref q2, .null, .int (0 : Int32), .int 0, .int 0, .int 0, .int 0, .int 0])), (q1, .inl (cI, 38, .inl (fun _ => 0))), (q2, .inl (cI, 5, .inl (fun _ => 0)))] H := hP
  have hD : va_D A [(t, .inr (6, [.null, .null, .null, .ref q1, .ref q2, .null, .int (0 : Int32), .int 0, .int 0, .int 0, .int 0, .int 0])), (q1, .inl (cI, 38, .inl (fun _ => 0))), (q2, .inl (cI, 5, .inl (fun _ => 0)))] := hD
  refine lv_aload_n hx hb dX6_init_24 rfl (lv_at hl 0 rfl) ?_
  refine lv_iconst (v := (0 : Int32)) hx hb dX6_init_25 (by decide) ?_
  refine va_put (D := D) (ci := 6) (v := .int (0 : Int32)) (ty := (.int)) (C := RX6) (T := TX6) (N := 12) hx hb hts in_X6 tyX6 tyX6_ok nmX6 hown hK hP hD hS 0 rfl rfl 7 (by decide) (hts _ kf_X6_22) (fun _ h9 => h9) rfl (by decide +kernel) rfl rfl (Nat.le_of_ble_eq_true rfl) dX6_init_26 (fun H locs hP hD hS => ?_)
  have hP : va_P D vwCl [(t, .inr (6, [.null, .null, .null, .ref q1, .ref q2, .null, .int (0 : Int32), .int (0 : Int32), .int 0, .int 0, .int 0, .int 0])), (q1, .inl (cI, 38, .inl (fun _ => 0))), (q2, .inl (cI, 5, .inl (fun _ => 0)))] H := hP
  have hD : va_D A [(t, .inr (6, [.null, .null, .null, .ref q1, .ref q2, .null, .int (0 : Int32), .int (0 : Int32), .int 0, .int 0, .int 0, .int 0])), (q1, .inl (cI, 38, .inl (fun _ => 0))), (q2, .inl (cI, 5, .inl (fun _ => 0)))] := hD
  refine lv_aload_n hx hb dX6_init_29 rfl (lv_at hl 0 rfl) ?_
  refine lv_iconst (v := (0 : Int32)) hx hb dX6_init_30 (by decide) ?_
  refine va_put (D := D) (ci := 6) (v := .int (0 : Int32)) (ty := (.int)) (C := RX6) (T := TX6) (N := 12) hx hb hts in_X6 tyX6 tyX6_ok nmX6 hown hK hP hD hS 0 rfl rfl 8 (by decide) (hts _ kf_X6_25) (fun _ h9 => h9) rfl (by decide +kernel) rfl rfl (Nat.le_of_ble_eq_true rfl) dX6_init_31 (fun H locs hP hD hS => ?_)
  have hP : va_P D vwCl [(t, .inr (6, [.null, .null, .null, .ref q1, .ref q2, .null, .int (0 : Int32), .int (0 : Int32), .int (0 : Int32), .int 0, .int 0, .int 0])), (q1, .inl (cI, 38, .inl (fun _ => 0))), (q2, .inl (cI, 5, .inl (fun _ => 0)))] H := hP
  have hD : va_D A [(t, .inr (6, [.null, .null, .null, .ref q1, .ref q2, .null, .int (0 : Int32), .int (0 : Int32), .int (0 : Int32), .int 0, .int 0, .int 0])), (q1, .inl (cI, 38, .inl (fun _ => 0))), (q2, .inl (cI, 5, .inl (fun _ => 0)))] := hD
  refine lv_aload_n hx hb dX6_init_34 rfl (lv_at hl 0 rfl) ?_
  refine lv_iconst (v := (-1 : Int32)) hx hb dX6_init_35 (by decide) ?_
  refine va_put (D := D) (ci := 6) (v := .int (-1 : Int32)) (ty := (.int)) (C := RX6) (T := TX6) (N := 12) hx hb hts in_X6 tyX6 tyX6_ok nmX6 hown hK hP hD hS 0 rfl rfl 9 (by decide) (hts _ kf_X6_28) (fun _ h9 => h9) rfl (by decide +kernel) rfl rfl (Nat.le_of_ble_eq_true rfl) dX6_init_36 (fun H locs hP hD hS => ?_)
  have hP : va_P D vwCl [(t, .inr (6, [.null, .null, .null, .ref q1, .ref q2, .null, .int (0 : Int32), .int (0 : Int32), .int (0 : Int32), .int (-1 : Int32), .int 0, .int 0])), (q1, .inl (cI, 38, .inl (fun _ => 0))), (q2, .inl (cI, 5, .inl (fun _ => 0)))] H := hP
  have hD : va_D A [(t, .inr (6, [.null, .null, .null, .ref q1, .ref q2, .null, .int (0 : Int32), .int (0 : Int32), .int (0 : Int32), .int (-1 : Int32), .int 0, .int 0])), (q1, .inl (cI, 38, .inl (fun _ => 0))), (q2, .inl (cI, 5, .inl (fun _ => 0)))] := hD
  refine lv_aload_n hx hb dX6_init_39 rfl (lv_at hl 0 rfl) ?_
  refine lv_iconst (v := (0 : Int32)) hx hb dX6_init_40 (by decide) ?_
  refine va_put (D := D) (ci := 6) (v := .int (0 : Int32)) (ty := (.boolean)) (C := RX6) (T := TX6) (N := 12) hx hb hts in_X6 tyX6 tyX6_ok nmX6 hown hK hP hD hS 0 rfl rfl 10 (by decide) (hts _ kf_X6_31) (fun _ h9 => h9) rfl (by decide +kernel) (by decide +kernel) (by decide +kernel) (Nat.le_of_ble_eq_true rfl) dX6_init_41 (fun H locs hP hD hS => ?_)
  have hP : va_P D vwCl [(t, .inr (6, [.null, .null, .null, .ref q1, .ref q2, .null, .int (0 : Int32), .int (0 : Int32), .int (0 : Int32), .int (-1 : Int32), .int (0 : Int32), .int 0])), (q1, .inl (cI, 38, .inl (fun _ => 0))), (q2, .inl (cI, 5, .inl (fun _ => 0)))] H := hP
  have hD : va_D A [(t, .inr (6, [.null, .null, .null, .ref q1, .ref q2, .null, .int (0 : Int32), .int (0 : Int32), .int (0 : Int32), .int (-1 : Int32), .int (0 : Int32), .int 0])), (q1, .inl (cI, 38, .inl (fun _ => 0))), (q2, .inl (cI, 5, .inl (fun _ => 0)))] := hD
  refine lv_aload_n hx hb dX6_init_44 rfl (lv_at hl 0 rfl) ?_
  refine lv_iconst (v := (0 : Int32)) hx hb dX6_init_45 (by decide) ?_
  refine va_put (D := D) (ci := 6) (v := .int (0 : Int32)) (ty := (.int)) (C := RX6) (T := TX6) (N := 12) hx hb hts in_X6 tyX6 tyX6_ok nmX6 hown hK hP hD hS 0 rfl rfl 11 (by decide) (hts _ kf_X6_35) (fun _ h9 => h9) rfl (by decide +kernel) rfl rfl (Nat.le_of_ble_eq_true rfl) dX6_init_46 (fun H locs hP hD hS => ?_)
  have hP : va_P D vwCl [(t, .inr (6, [.null, .null, .null, .ref q1, .ref q2, .null, .int (0 : Int32), .int (0 : Int32), .int (0 : Int32), .int (-1 : Int32), .int (0 : Int32), .int (0 : Int32)])), (q1, .inl (cI, 38, .inl (fun _ => 0))), (q2, .inl (cI, 5, .inl (fun _ => 0)))] H := hP
  have hD : va_D A [(t, .inr (6, [.null, .null, .null, .ref q1, .ref q2, .null, .int (0 : Int32), .int (0 : Int32), .int (0 : Int32), .int (-1 : Int32), .int (0 : Int32), .int (0 : Int32)])), (q1, .inl (cI, 38, .inl (fun _ => 0))), (q2, .inl (cI, 5, .inl (fun _ => 0)))] := hD
  refine lv_aload_n hx hb dX6_init_49 rfl (lv_at hl 0 rfl) ?_
  refine lv_aload_n hx hb dX6_init_50 rfl (lv_at hl 1 rfl) ?_
  refine va_put (D := D) (ci := 6) (v := .ref pr) (ty := (.object "RuleHall$Program")) (C := RX6) (T := TX6) (N := 12) hx hb hts in_X6 tyX6 tyX6_ok nmX6 hown hK hP hD hS 0 rfl rfl 5 (by decide) (hts _ kf_X6_38) (fun _ h9 => h9) rfl (by decide +kernel) rfl rfl (Nat.le_of_ble_eq_true rfl) dX6_init_51 (fun H locs hP hD hS => ?_)
  have hP : va_P D vwCl [(t, .inr (6, [.null, .null, .null, .ref q1, .ref q2, .ref pr, .int (0 : Int32), .int (0 : Int32), .int (0 : Int32), .int (-1 : Int32), .int (0 : Int32), .int (0 : Int32)])), (q1, .inl (cI, 38, .inl (fun _ => 0))), (q2, .inl (cI, 5, .inl (fun _ => 0)))] H := hP
  have hD : va_D A [(t, .inr (6, [.null, .null, .null, .ref q1, .ref q2, .ref pr, .int (0 : Int32), .int (0 : Int32), .int (0 : Int32), .int (-1 : Int32), .int (0 : Int32), .int (0 : Int32)])), (q1, .inl (cI, 38, .inl (fun _ => 0))), (q2, .inl (cI, 5, .inl (fun _ => 0)))] := hD
  refine lv_aload_n hx hb dX6_init_54 rfl (lv_at hl 0 rfl) ?_
  refine lv_aload_n hx hb dX6_init_55 rfl (lv_at hl 2 rfl) ?_
  refine va_putF (D := D) (ci := 6) (v := .ref fa) (ty := (.object "RuleHall$FactSet")) (C := RX6) (T := TX6) (N := 12) hx hb hts in_X6 tyX6 tyX6_ok nmX6 hown hK hP hD hS 0 rfl rfl 0 (by decide) (hts _ kf_X6_42) (fun _ h9 => h9) rfl hin rfl (by decide +kernel) rfl rfl (Nat.le_of_ble_eq_true rfl) dX6_init_56 (fun H locs hP hD hS => ?_)
  have hP : va_P D vwCl [(t, .inr (6, [.ref fa, .null, .null, .ref q1, .ref q2, .ref pr, .int (0 : Int32), .int (0 : Int32), .int (0 : Int32), .int (-1 : Int32), .int (0 : Int32), .int (0 : Int32)])), (q1, .inl (cI, 38, .inl (fun _ => 0))), (q2, .inl (cI, 5, .inl (fun _ => 0)))] H := hP
  have hD : va_D A [(t, .inr (6, [.ref fa, .null, .null, .ref q1, .ref q2, .ref pr, .int (0 : Int32), .int (0 : Int32), .int (0 : Int32), .int (-1 : Int32), .int (0 : Int32), .int (0 : Int32)])), (q1, .inl (cI, 38, .inl (fun _ => 0))), (q2, .inl (cI, 5, .inl (fun _ => 0)))] := hD
  refine lv_aload_n hx hb dX6_init_59 rfl (lv_at hl 0 rfl) ?_
  refine lv_aload_n hx hb dX6_init_60 rfl (lv_at hl 3 rfl) ?_
  refine va_putF (D := D) (ci := 6) (v := .ref fr) (ty := (.object "RuleHall$FactSet")) (C := RX6) (T := TX6) (N := 12) hx hb hts in_X6 tyX6 tyX6_ok nmX6 hown hK hP hD hS 0 rfl rfl 1 (by decide) (hts _ kf_X6_46) (fun _ h9 => h9) rfl hin rfl (by decide +kernel) rfl rfl (Nat.le_of_ble_eq_true rfl) dX6_init_61 (fun H locs hP hD hS => ?_)
  have hP : va_P D vwCl [(t, .inr (6, [.ref fa, .ref fr, .null, .ref q1, .ref q2, .ref pr, .int (0 : Int32), .int (0 : Int32), .int (0 : Int32), .int (-1 : Int32), .int (0 : Int32), .int (0 : Int32)])), (q1, .inl (cI, 38, .inl (fun _ => 0))), (q2, .inl (cI, 5, .inl (fun _ => 0)))] H := hP
  have hD : va_D A [(t, .inr (6, [.ref fa, .ref fr, .null, .ref q1, .ref q2, .ref pr, .int (0 : Int32), .int (0 : Int32), .int (0 : Int32), .int (-1 : Int32), .int (0 : Int32), .int (0 : Int32)])), (q1, .inl (cI, 38, .inl (fun _ => 0))), (q2, .inl (cI, 5, .inl (fun _ => 0)))] := hD
  refine lv_aload_n hx hb dX6_init_64 rfl (lv_at hl 0 rfl) ?_
  refine lv_aload hx hb dX6_init_65 (lv_at hl 4 rfl) ?_
  refine va_putF (D := D) (ci := 6) (v := .ref la) (ty := (.object "RuleHall$FactSet")) (C := RX6) (T := TX6) (N := 12) hx hb hts in_X6 tyX6 tyX6_ok nmX6 hown hK hP hD hS 0 rfl rfl 2 (by decide) (hts _ kf_X6_49) (fun _ h9 => h9) rfl hin rfl (by decide +kernel) rfl rfl (Nat.le_of_ble_eq_true rfl) dX6_init_67 (fun H locs hP hD hS => ?_)
  have hP : va_P D vwCl [(t, .inr (6, [.ref fa, .ref fr, .ref la, .ref q1, .ref q2, .ref pr, .int (0 : Int32), .int (0 : Int32), .int (0 : Int32), .int (-1 : Int32), .int (0 : Int32), .int (0 : Int32)])), (q1, .inl (cI, 38, .inl (fun _ => 0))), (q2, .inl (cI, 5, .inl (fun _ => 0)))] H := hP
  have hD : va_D A [(t, .inr (6, [.ref fa, .ref fr, .ref la, .ref q1, .ref q2, .ref pr, .int (0 : Int32), .int (0 : Int32), .int (0 : Int32), .int (-1 : Int32), .int (0 : Int32), .int (0 : Int32)])), (q1, .inl (cI, 38, .inl (fun _ => 0))), (q2, .inl (cI, 5, .inl (fun _ => 0)))] := hD
  have LP : ∀ (n : Nat) (i : Nat) (f : Nat → Int32), i + n = 38 → (∀ j, f j = if j < i then kValue0 j else 0) → ∀ (H : Heap) (locs : List Loc) (ls : Array Slot), va_P D vwCl [(t, .inr (6, [.ref fa, .ref fr, .ref la, .ref q1, .ref q2, .ref pr, .int (0 : Int32), .int (0 : Int32), .int (0 : Int32), .int (-1 : Int32), .int (0 : Int32), .int (0 : Int32)])), (q1, .inl (cI, 38, .inl (f))), (q2, .inl (cI, 5, .inl (fun _ => 0)))] H → va_D A [(t, .inr (6, [.ref fa, .ref fr, .ref la, .ref q1, .ref q2, .ref pr, .int (0 : Int32), .int (0 : Int32), .int (0 : Int32), .int (-1 : Int32), .int (0 : Int32), .int (0 : Int32)])), (q1, .inl (cI, 38, .inl (f))), (q2, .inl (cI, 5, .inl (fun _ => 0)))] → va_S A s.heap H locs → lv_has ls 6 [(5, .int (nI i)), (0, .ref t), (1, .ref pr), (2, .ref fa), (3, .ref fr), (4, .ref la)] → W p l e { frames := 1, cells := 2, slots := 43, locals := 20 } s m args below meth c H locs 2 43 Q (F0 m 73 ls []) := by
    intro n
    induction n with
    | zero =>
      intro i f hi hf H locs ls hP hD hS hl
      refine lv_iload hx hb dX6_init_73 (lv_at hl 0 rfl) ?_
      refine lv_aload_n hx hb dX6_init_75 rfl (lv_at hl 1 rfl) ?_
      refine va_get (D := D) (ci := 6) (v := .ref q1) (C := RX6) (T := TX6) (N := 12) hx hb hts in_X6 hown hK hP 0 rfl rfl 3 (by decide) (hts _ kf_X6_9) (fun _ h9 => h9) rfl dX6_init_76 ?_
      refine va_alen (v := (38 : Int32)) hx hb hK hP 1 1 rfl rfl rfl dX6_init_79 ?_
      refine lv_icmp_ge (tgt := 109) hx hb dX6_init_80 (by decide) (fun hc => ?_) (fun hc => ?_)
      · have hf2 : f = kValue0 := by
          funext j
          rw [hf j]
          by_cases h : j < i
          · rw [if_pos h]
          · rw [if_neg h]; unfold kValue0; rw [if_neg (by omega), if_neg (by omega)]
        subst hf2
        exact k_nret (fun k => [q1, q2].getD k 0) hx hb hr hlocks hK hP hD hS dX6_init_109 hQ rfl
      · have h38 : i = 38 := by omega
        subst h38
        exact absurd (show (38 : Int32) ≤ nI 38 by decide) hc
    | succ n ih =>
      intro i f hi hf H locs ls hP hD hS hl
      refine lv_iload hx hb dX6_init_73 (lv_at hl 0 rfl) ?_
      refine lv_aload_n hx hb dX6_init_75 rfl (lv_at hl 1 rfl) ?_
      refine va_get (D := D) (ci := 6) (v := .ref q1) (C := RX6) (T := TX6) (N := 12) hx hb hts in_X6 hown hK hP 0 rfl rfl 3 (by decide) (hts _ kf_X6_9) (fun _ h9 => h9) rfl dX6_init_76 ?_
      refine va_alen (v := (38 : Int32)) hx hb hK hP 1 1 rfl rfl rfl dX6_init_79 ?_
      refine lv_icmp_ge (tgt := 109) hx hb dX6_init_80 (by decide) (fun hc => ?_) (fun hc => ?_)
      · exact absurd hc (show ¬ (nI 38) ≤ nI i from nI_ge (by omega) (by decide))
      · refine lv_aload_n hx hb dX6_init_83 rfl (lv_at hl 1 rfl) ?_
        refine va_get (D := D) (ci := 6) (v := .ref q1) (C := RX6) (T := TX6) (N := 12) hx hb hts in_X6 hown hK hP 0 rfl rfl 3 (by decide) (hts _ kf_X6_9) (fun _ h9 => h9) rfl dX6_init_84 ?_
        refine lv_iload hx hb dX6_init_87 (lv_at hl 0 rfl) ?_
        refine lv_iload hx hb dX6_init_89 (lv_at hl 0 rfl) ?_
        refine lv_bipush (v := (12 : Int32)) hx hb dX6_init_91 (by decide) ?_
        have go : ∀ (x : Int32), x = kValue0 i → W p l e { frames := 1, cells := 2, slots := 43, locals := 20 } s m args below meth c H locs 2 43 Q (F0 m 102 ls [.int x, .int (nI i), .ref q1]) := by
          intro x ex
          refine k_iast hx hb hK hP hD hS 1 1 rfl rfl (vp_in_nI (show i < 38 by omega) (by decide)) dX6_init_102 (fun g eg H locs hP hD hS => ?_)
          have hP : va_P D vwCl [(t, .inr (6, [.ref fa, .ref fr, .ref la, .ref q1, .ref q2, .ref pr, .int (0 : Int32), .int (0 : Int32), .int (0 : Int32), .int (-1 : Int32), .int (0 : Int32), .int (0 : Int32)])), (q1, .inl (cI, 38, .inl (g))), (q2, .inl (cI, 5, .inl (fun _ => 0)))] H := hP
          have hD : va_D A [(t, .inr (6, [.ref fa, .ref fr, .ref la, .ref q1, .ref q2, .ref pr, .int (0 : Int32), .int (0 : Int32), .int (0 : Int32), .int (-1 : Int32), .int (0 : Int32), .int (0 : Int32)])), (q1, .inl (cI, 38, .inl (g))), (q2, .inl (cI, 5, .inl (fun _ => 0)))] := hD
          refine lv_iinc (v := nI (i + 1)) (lv' := [(5, .int (nI (i + 1))), (0, .ref t), (1, .ref pr), (2, .ref fa), (3, .ref fr), (4, .ref la)]) hx hb dX6_init_103 hl (k := 0) rfl (by rw [← nI_1]; rfl) (by decide) rfl (fun ls hl => ?_)
          refine lv_goto (tgt := 73) hx hb dX6_init_106 (by decide) ?_
          refine ih (i + 1) g (by omega) (fun j => ?_) H locs ls hP hD hS hl
          rw [eg, nI_clamp (show i < 2 ^ 31 by omega)]
          by_cases hj : j = i
          · subst hj; rw [pk_us, if_pos (by omega), ex]
          · rw [pk_un hj, hf j]
            by_cases h : j < i
            · rw [if_pos h, if_pos (by omega)]
            · rw [if_neg h, if_neg (by omega)]
        refine lv_icmp_ge (tgt := 101) hx hb dX6_init_93 (by decide) (fun hd => ?_) (fun hd => ?_)
        · refine lv_iconst (v := (-1 : Int32)) hx hb dX6_init_101 (by decide) ?_
          refine go (-1) ?_
          have h12 : ¬ i < 12 := fun h => nI_ge h (by decide) hd
          unfold kValue0; rw [if_neg h12, if_pos (by omega)]
        · refine lv_iload hx hb dX6_init_96 (lv_at hl 0 rfl) ?_
          refine lv_goto (tgt := 102) hx hb dX6_init_98 (by decide) ?_
          refine go (nI i) ?_
          have h12 : i < 12 := by
            rcases Nat.lt_or_ge i 12 with h | h
            · exact h
            · exact absurd (show (12 : Int32) ≤ nI i from nI_le h (by omega)) hd
          unfold kValue0; rw [if_pos h12]
  refine lv_iconst (v := (0 : Int32)) hx hb dX6_init_70 (by decide) ?_
  refine lv_istore (lv' := [(5, .int (nI 0)), (0, .ref t), (1, .ref pr), (2, .ref fa), (3, .ref fr), (4, .ref la)]) hx hb dX6_init_71 hl (by decide) rfl (fun ls hl => ?_)
  exact LP 38 0 (fun _ => 0) rfl (fun j => by rw [if_neg (Nat.not_lt_zero j)]) H locs ls hP hD hS hl
set_option maxRecDepth 100000 in
set_option maxHeartbeats 8000000 in
theorem N_Deducer_init (l : Launch) (D : va_G) (cB cI cZ cJ : ClassId) (t : Nat) (pr : Nat) (fa : Nat) : KN l yX0_init cX0_init 3 { frames := 2, cells := 9, slots := 2959, locals := 45 } D (kTy cB cI cZ cJ) (va_Nw (.methodLinkNest RX0 11 yX1_init "RuleHall")) [.ref t, .ref pr, .ref fa] [(t, .inr (0, [.null, .null, .null, .null, .null]))] (fun ad => [(t, .inr (0, [.ref fa, .ref (ad 0), .ref (ad 3), .ref (ad 6), .ref pr])), (ad 0, .inr (1, [.ref (ad 1), .ref (ad 2)])), (ad 1, .inl (cI, 1440, .inl (fun _ => 0))), (ad 2, .inl (cI, 10, .inl (fun _ => 0))), (ad 3, .inr (1, [.ref (ad 4), .ref (ad 5)])), (ad 4, .inl (cI, 1440, .inl (fun _ => 0))), (ad 5, .inl (cI, 10, .inl (fun _ => 0))), (ad 6, .inr (6, [.ref fa, .ref (ad 0), .ref (ad 3), .ref (ad 7), .ref (ad 8), .ref pr, .int (0 : Int32), .int (0 : Int32), .int (0 : Int32), .int (-1 : Int32), .int (0 : Int32), .int (0 : Int32)])), (ad 7, .inl (cI, 38, .inl (kValue0))), (ad 8, .inl (cI, 5, .inl (fun _ => 0)))]) 9 2959 := by
  refine KN.of (by decide +kernel) (Nat.le_of_ble_eq_true rfl) ?_
  intro p e s m below meth c A ls args Q hQ CX hA hK hP hD hl hX hin
  obtain ⟨hx, hb, hr, hml, hown, hts, hlocks⟩ := CX
  have hown : s.vm.findClass RX0 = some m.cls := hown
  have hin : meth.name = "<init>" := hin
  have hS : va_S A s.heap s.heap [] := va_S.rf
  have hl : lv_has ls 3 [(0, .ref t), (1, .ref pr), (2, .ref fa)] := hl
  refine lv_aload_n hx hb dX0_init_0 rfl (lv_at hl 0 rfl) ?_
  refine W.objInit hx hb hown (hts _ km_X0_3) (hts _ k_oi1) (hts _ k_oi2) rfl (by rw [hml]; exact hl.1) rfl dX0_init_1 (Nat.le_of_ble_eq_true rfl) (Nat.le_of_ble_eq_true rfl) ?_
  refine W.eq (g2 := F0 m 4 ls []) rfl ?_
  refine lv_aload_n hx hb dX0_init_4 rfl (lv_at hl 0 rfl) ?_
  refine va_new (ci := 1) (fs := [.null, .null]) (C := RX1) (T := TX1) (N := 2) hx hb hts in_X1 tyX1 tyX1_ok hown (hts _ kl_X0_9) (hts _ kn_X1) (hts _ ki_X1) hK hP hD hS hA rfl (fun j hj => by rcases (show j = 0 ∨ j = 1 by omega) with rfl | rfl <;> rfl) (Nat.le_of_ble_eq_true rfl) (Nat.le_of_ble_eq_true rfl) dX0_init_5 (fun q1 H hP hD hS => ?_)
  refine W.widen (k := 1) (n := 2) (Nat.le_of_ble_eq_true rfl) (Nat.le_of_ble_eq_true rfl) ?_
  have hP : va_P D vwCl [(t, .inr (0, [.null, .null, .null, .null, .null])), (q1, .inr (1, [.null, .null]))] H := hP
  have hD : va_D A [(t, .inr (0, [.null, .null, .null, .null, .null])), (q1, .inr (1, [.null, .null]))] := hD
  refine lv_dup hx hb dX0_init_8 rfl ?_
  refine k_callI (As := []) (rest := [.ref q1, .ref t]) (wr := [(t, .inr (0, [.null, .null, .null, .null, .null]))]) (ws1 := fun a2 => [(t, .inr (0, [.null, .null, .null, .null, .null])), (q1, .inr (1, [.ref (a2 0), .ref (a2 1)])), (a2 0, .inl (cI, 1440, .inl (fun _ => 0))), (a2 1, .inl (cI, 10, .inl (fun _ => 0)))]) (some "RuleHall") [1] [0] [0, 1, 2, 3] (N_FactSet_init l D cB cI cZ cJ q1) mn_X1_init XOk.t trivial hX hx hb hml hown hts hK hP hD hS hA hl.1 ⟨Nat.le_of_ble_eq_true rfl, Nat.le_of_ble_eq_true rfl⟩ dX0_init_9 rfl rfl (Nat.le_of_ble_eq_true rfl) ⟨⟨rfl, rfl⟩, Nat.le_of_ble_eq_true rfl, Nat.le_of_ble_eq_true rfl⟩ rfl rfl (by decide) (fun _ => rfl) (fun a2 H locs hP hD hS => ?_)
  refine W.widen (k := 3) (n := 1452) (Nat.le_of_ble_eq_true rfl) (Nat.le_of_ble_eq_true rfl) ?_
  have hP : va_P D vwCl [(t, .inr (0, [.null, .null, .null, .null, .null])), (q1, .inr (1, [.ref (a2 0), .ref (a2 1)])), (a2 0, .inl (cI, 1440, .inl (fun _ => 0))), (a2 1, .inl (cI, 10, .inl (fun _ => 0)))] H := hP
  have hD : va_D A [(t, .inr (0, [.null, .null, .null, .null, .null])), (q1, .inr (1, [.ref (a2 0), .ref (a2 1)])), (a2 0, .inl (cI, 1440, .inl (fun _ => 0))), (a2 1, .inl (cI, 10, .inl (fun _ => 0)))] := hD
  refine va_putF (D := D) (ci := 0) (v := .ref q1) (ty := (.object "RuleHall$FactSet")) (C := RX0) (T := TX0) (N := 5) hx hb hts in_X0 tyX0 tyX0_ok nmX0 hown hK hP hD hS 0 rfl rfl 1 (by decide) (hts _ kf_X0_12) (fun _ h9 => h9) rfl hin rfl (by decide +kernel) rfl rfl (Nat.le_of_ble_eq_true rfl) dX0_init_12 (fun H locs hP hD hS => ?_)
  have hP : va_P D vwCl [(t, .inr (0, [.null, .ref q1, .null, .null, .null])), (q1, .inr (1, [.ref (a2 0), .ref (a2 1)])), (a2 0, .inl (cI, 1440, .inl (fun _ => 0))), (a2 1, .inl (cI, 10, .inl (fun _ => 0)))] H := hP
  have hD : va_D A [(t, .inr (0, [.null, .ref q1, .null, .null, .null])), (q1, .inr (1, [.ref (a2 0), .ref (a2 1)])), (a2 0, .inl (cI, 1440, .inl (fun _ => 0))), (a2 1, .inl (cI, 10, .inl (fun _ => 0)))] := hD
  refine lv_aload_n hx hb dX0_init_15 rfl (lv_at hl 0 rfl) ?_
  refine va_new (ci := 1) (fs := [.null, .null]) (C := RX1) (T := TX1) (N := 2) hx hb hts in_X1 tyX1 tyX1_ok hown (hts _ kl_X0_9) (hts _ kn_X1) (hts _ ki_X1) hK hP hD hS hA rfl (fun j hj => by rcases (show j = 0 ∨ j = 1 by omega) with rfl | rfl <;> rfl) (Nat.le_of_ble_eq_true rfl) (Nat.le_of_ble_eq_true rfl) dX0_init_16 (fun q3 H hP hD hS => ?_)
  refine W.widen (k := 4) (n := 1454) (Nat.le_of_ble_eq_true rfl) (Nat.le_of_ble_eq_true rfl) ?_
  have hP : va_P D vwCl [(t, .inr (0, [.null, .ref q1, .null, .null, .null])), (q1, .inr (1, [.ref (a2 0), .ref (a2 1)])), (a2 0, .inl (cI, 1440, .inl (fun _ => 0))), (a2 1, .inl (cI, 10, .inl (fun _ => 0))), (q3, .inr (1, [.null, .null]))] H := hP
  have hD : va_D A [(t, .inr (0, [.null, .ref q1, .null, .null, .null])), (q1, .inr (1, [.ref (a2 0), .ref (a2 1)])), (a2 0, .inl (cI, 1440, .inl (fun _ => 0))), (a2 1, .inl (cI, 10, .inl (fun _ => 0))), (q3, .inr (1, [.null, .null]))] := hD
  refine lv_dup hx hb dX0_init_19 rfl ?_
  refine k_callI (As := []) (rest := [.ref q3, .ref t]) (wr := [(t, .inr (0, [.null, .ref q1, .null, .null, .null])), (q1, .inr (1, [.ref (a2 0), .ref (a2 1)])), (a2 0, .inl (cI, 1440, .inl (fun _ => 0))), (a2 1, .inl (cI, 10, .inl (fun _ => 0)))]) (ws1 := fun a4 => [(t, .inr (0, [.null, .ref q1, .null, .null, .null])), (q1, .inr (1, [.ref (a2 0), .ref (a2 1)])), (a2 0, .inl (cI, 1440, .inl (fun _ => 0))), (a2 1, .inl (cI, 10, .inl (fun _ => 0))), (q3, .inr (1, [.ref (a4 0), .ref (a4 1)])), (a4 0, .inl (cI, 1440, .inl (fun _ => 0))), (a4 1, .inl (cI, 10, .inl (fun _ => 0)))]) (some "RuleHall") [4] [0, 1, 2, 3] [0, 1, 2, 3, 4, 5, 6] (N_FactSet_init l D cB cI cZ cJ q3) mn_X1_init XOk.t trivial hX hx hb hml hown hts hK hP hD hS hA hl.1 ⟨Nat.le_of_ble_eq_true rfl, Nat.le_of_ble_eq_true rfl⟩ dX0_init_20 rfl rfl (Nat.le_of_ble_eq_true rfl) ⟨⟨rfl, rfl⟩, Nat.le_of_ble_eq_true rfl, Nat.le_of_ble_eq_true rfl⟩ rfl rfl (by decide) (fun _ => rfl) (fun a4 H locs hP hD hS => ?_)
  refine W.widen (k := 6) (n := 2904) (Nat.le_of_ble_eq_true rfl) (Nat.le_of_ble_eq_true rfl) ?_
  have hP : va_P D vwCl [(t, .inr (0, [.null, .ref q1, .null, .null, .null])), (q1, .inr (1, [.ref (a2 0), .ref (a2 1)])), (a2 0, .inl (cI, 1440, .inl (fun _ => 0))), (a2 1, .inl (cI, 10, .inl (fun _ => 0))), (q3, .inr (1, [.ref (a4 0), .ref (a4 1)])), (a4 0, .inl (cI, 1440, .inl (fun _ => 0))), (a4 1, .inl (cI, 10, .inl (fun _ => 0)))] H := hP
  have hD : va_D A [(t, .inr (0, [.null, .ref q1, .null, .null, .null])), (q1, .inr (1, [.ref (a2 0), .ref (a2 1)])), (a2 0, .inl (cI, 1440, .inl (fun _ => 0))), (a2 1, .inl (cI, 10, .inl (fun _ => 0))), (q3, .inr (1, [.ref (a4 0), .ref (a4 1)])), (a4 0, .inl (cI, 1440, .inl (fun _ => 0))), (a4 1, .inl (cI, 10, .inl (fun _ => 0)))] := hD
  refine va_putF (D := D) (ci := 0) (v := .ref q3) (ty := (.object "RuleHall$FactSet")) (C := RX0) (T := TX0) (N := 5) hx hb hts in_X0 tyX0 tyX0_ok nmX0 hown hK hP hD hS 0 rfl rfl 2 (by decide) (hts _ kf_X0_18) (fun _ h9 => h9) rfl hin rfl (by decide +kernel) rfl rfl (Nat.le_of_ble_eq_true rfl) dX0_init_23 (fun H locs hP hD hS => ?_)
  have hP : va_P D vwCl [(t, .inr (0, [.null, .ref q1, .ref q3, .null, .null])), (q1, .inr (1, [.ref (a2 0), .ref (a2 1)])), (a2 0, .inl (cI, 1440, .inl (fun _ => 0))), (a2 1, .inl (cI, 10, .inl (fun _ => 0))), (q3, .inr (1, [.ref (a4 0), .ref (a4 1)])), (a4 0, .inl (cI, 1440, .inl (fun _ => 0))), (a4 1, .inl (cI, 10, .inl (fun _ => 0)))] H := hP
  have hD : va_D A [(t, .inr (0, [.null, .ref q1, .ref q3, .null, .null])), (q1, .inr (1, [.ref (a2 0), .ref (a2 1)])), (a2 0, .inl (cI, 1440, .inl (fun _ => 0))), (a2 1, .inl (cI, 10, .inl (fun _ => 0))), (q3, .inr (1, [.ref (a4 0), .ref (a4 1)])), (a4 0, .inl (cI, 1440, .inl (fun _ => 0))), (a4 1, .inl (cI, 10, .inl (fun _ => 0)))] := hD
  refine lv_aload_n hx hb dX0_init_26 rfl (lv_at hl 0 rfl) ?_
  refine lv_aload_n hx hb dX0_init_27 rfl (lv_at hl 1 rfl) ?_
  refine va_put (D := D) (ci := 0) (v := .ref pr) (ty := (.object "RuleHall$Program")) (C := RX0) (T := TX0) (N := 5) hx hb hts in_X0 tyX0 tyX0_ok nmX0 hown hK hP hD hS 0 rfl rfl 4 (by decide) (hts _ kf_X0_21) (fun _ h9 => h9) rfl (by decide +kernel) rfl rfl (Nat.le_of_ble_eq_true rfl) dX0_init_28 (fun H locs hP hD hS => ?_)
  have hP : va_P D vwCl [(t, .inr (0, [.null, .ref q1, .ref q3, .null, .ref pr])), (q1, .inr (1, [.ref (a2 0), .ref (a2 1)])), (a2 0, .inl (cI, 1440, .inl (fun _ => 0))), (a2 1, .inl (cI, 10, .inl (fun _ => 0))), (q3, .inr (1, [.ref (a4 0), .ref (a4 1)])), (a4 0, .inl (cI, 1440, .inl (fun _ => 0))), (a4 1, .inl (cI, 10, .inl (fun _ => 0)))] H := hP
  have hD : va_D A [(t, .inr (0, [.null, .ref q1, .ref q3, .null, .ref pr])), (q1, .inr (1, [.ref (a2 0), .ref (a2 1)])), (a2 0, .inl (cI, 1440, .inl (fun _ => 0))), (a2 1, .inl (cI, 10, .inl (fun _ => 0))), (q3, .inr (1, [.ref (a4 0), .ref (a4 1)])), (a4 0, .inl (cI, 1440, .inl (fun _ => 0))), (a4 1, .inl (cI, 10, .inl (fun _ => 0)))] := hD
  refine lv_aload_n hx hb dX0_init_31 rfl (lv_at hl 0 rfl) ?_
  refine lv_aload_n hx hb dX0_init_32 rfl (lv_at hl 2 rfl) ?_
  refine va_putF (D := D) (ci := 0) (v := .ref fa) (ty := (.object "RuleHall$FactSet")) (C := RX0) (T := TX0) (N := 5) hx hb hts in_X0 tyX0 tyX0_ok nmX0 hown hK hP hD hS 0 rfl rfl 0 (by decide) (hts _ kf_X0_25) (fun _ h9 => h9) rfl hin rfl (by decide +kernel) rfl rfl (Nat.le_of_ble_eq_true rfl) dX0_init_33 (fun H locs hP hD hS => ?_)
  have hP : va_P D vwCl [(t, .inr (0, [.ref fa, .ref q1, .ref q3, .null, .ref pr])), (q1, .inr (1, [.ref (a2 0), .ref (a2 1)])), (a2 0, .inl (cI, 1440, .inl (fun _ => 0))), (a2 1, .inl (cI, 10, .inl (fun _ => 0))), (q3, .inr (1, [.ref (a4 0), .ref (a4 1)])), (a4 0, .inl (cI, 1440, .inl (fun _ => 0))), (a4 1, .inl (cI, 10, .inl (fun _ => 0)))] H := hP
  have hD : va_D A [(t, .inr (0, [.ref fa, .ref q1, .ref q3, .null, .ref pr])), (q1, .inr (1, [.ref (a2 0), .ref (a2 1)])), (a2 0, .inl (cI, 1440, .inl (fun _ => 0))), (a2 1, .inl (cI, 10, .inl (fun _ => 0))), (q3, .inr (1, [.ref (a4 0), .ref (a4 1)])), (a4 0, .inl (cI, 1440, .inl (fun _ => 0))), (a4 1, .inl (cI, 10, .inl (fun _ => 0)))] := hD
  refine lv_aload_n hx hb dX0_init_36 rfl (lv_at hl 0 rfl) ?_
  refine va_new (ci := 6) (fs := [.null, .null, .null, .null, .null, .null, .int 0, .int 0, .int 0, .int 0, .int 0, .int 0]) (C := RX6) (T := TX6) (N := 12) hx hb hts in_X6 tyX6 tyX6_ok hown (hts _ kl_X0_28) (hts _ kn_X6) (hts _ ki_X6) hK hP hD hS hA rfl (fun j hj => by rcases (show j = 0 ∨ j = 1 ∨ j = 2 ∨ j = 3 ∨ j = 4 ∨ j = 5 ∨ j = 6 ∨ j = 7 ∨ j = 8 ∨ j = 9 ∨ j = 10 ∨ j = 11 by omega) with rfl | rfl | rfl | rfl | rfl | rfl | rfl | rfl | rfl | rfl | rfl | rfl <;> rfl) (Nat.le_of_ble_eq_true rfl) (Nat.le_of_ble_eq_true rfl) dX0_init_37 (fun q5 H hP hD hS => ?_)
  refine W.widen (k := 7) (n := 2916) (Nat.le_of_ble_eq_true rfl) (Nat.le_of_ble_eq_true rfl) ?_
  have hP : va_P D vwCl [(t, .inr (0, [.ref fa, .ref q1, .ref q3, .null, .ref pr])), (q1, .inr (1, [.ref (a2 0), .ref (a2 1)])), (a2 0, .inl (cI, 1440, .inl (fun _ => 0))), (a2 1, .inl (cI, 10, .inl (fun _ => 0))), (q3, .inr (1, [.ref (a4 0), .ref (a4 1)])), (a4 0, .inl (cI, 1440, .inl (fun _ => 0))), (a4 1, .inl (cI, 10, .inl (fun _ => 0))), (q5, .inr (6, [.null, .null, .null, .null, .null, .null, .int 0, .int 0, .int 0, .int 0, .int 0, .int 0]))] H := hP
  have hD : va_D A [(t, .inr (0, [.ref fa, .ref q1, .ref q3, .null, .ref pr])), (q1, .inr (1, [.ref (a2 0), .ref (a2 1)])), (a2 0, .inl (cI, 1440, .inl (fun _ => 0))), (a2 1, .inl (cI, 10, .inl (fun _ => 0))), (q3, .inr (1, [.ref (a4 0), .ref (a4 1)])), (a4 0, .inl (cI, 1440, .inl (fun _ => 0))), (a4 1, .inl (cI, 10, .inl (fun _ => 0))), (q5, .inr (6, [.null, .null, .null, .null, .null, .null, .int 0, .int 0, .int 0, .int 0, .int 0, .int 0]))] := hD
  refine lv_dup hx hb dX0_init_40 rfl ?_
  refine lv_aload_n hx hb dX0_init_41 rfl (lv_at hl 1 rfl) ?_
  refine lv_aload_n hx hb dX0_init_42 rfl (lv_at hl 2 rfl) ?_
  refine lv_aload_n hx hb dX0_init_43 rfl (lv_at hl 0 rfl) ?_
  refine va_get (D := D) (ci := 0) (v := .ref q1) (C := RX0) (T := TX0) (N := 5) hx hb hts in_X0 hown hK hP 0 rfl rfl 1 (by decide) (hts _ kf_X0_12) (fun _ h9 => h9) rfl dX0_init_44 ?_
  refine lv_aload_n hx hb dX0_init_47 rfl (lv_at hl 0 rfl) ?_
  refine va_get (D := D) (ci := 0) (v := .ref q3) (C := RX0) (T := TX0) (N := 5) hx hb hts in_X0 hown hK hP 0 rfl rfl 2 (by decide) (hts _ kf_X0_18) (fun _ h9 => h9) rfl dX0_init_48 ?_
  refine k_callI (As := [.ref pr, .ref fa, .ref q1, .ref q3]) (rest := [.ref q5, .ref t]) (wr := [(t, .inr (0, [.ref fa, .ref q1, .ref q3, .null, .ref pr])), (q1, .inr (1, [.ref (a2 0), .ref (a2 1)])), (a2 0, .inl (cI, 1440, .inl (fun _ => 0))), (a2 1, .inl (cI, 10, .inl (fun _ => 0))), (q3, .inr (1, [.ref (a4 0), .ref (a4 1)])), (a4 0, .inl (cI, 1440, .inl (fun _ => 0))), (a4 1, .inl (cI, 10, .inl (fun _ => 0)))]) (ws1 := fun a6 => [(t, .inr (0, [.ref fa, .ref q1, .ref q3, .null, .ref pr])), (q1, .inr (1, [.ref (a2 0), .ref (a2 1)])), (a2 0, .inl (cI, 1440, .inl (fun _ => 0))), (a2 1, .inl (cI, 10, .inl (fun _ => 0))), (q3, .inr (1, [.ref (a4 0), .ref (a4 1)])), (a4 0, .inl (cI, 1440, .inl (fun _ => 0))), (a4 1, .inl (cI, 10, .inl (fun _ => 0))), (q5, .inr (6, [.ref fa, .ref q1, .ref q3, .ref (a6 0), .ref (a6 1), .ref pr, .int (0 : Int32), .int (0 : Int32), .int (0 : Int32), .int (-1 : Int32), .int (0 : Int32), .int (0 : Int32)])), (a6 0, .inl (cI, 38, .inl (kValue0))), (a6 1, .inl (cI, 5, .inl (fun _ => 0)))]) none [7] [0, 1, 2, 3, 4, 5, 6] [0, 1, 2, 3, 4, 5, 6, 7, 8, 9] (N_Search_init l D cB cI cZ cJ q5 pr fa q1 q3) mn_X6_init XOk.t trivial (hts _ km_X0_30) hx hb hml hown hts hK hP hD hS hA hl.1 ⟨Nat.le_of_ble_eq_true rfl, Nat.le_of_ble_eq_true rfl⟩ dX0_init_51 rfl rfl (Nat.le_of_ble_eq_true rfl) ⟨⟨rfl, rfl⟩, Nat.le_of_ble_eq_true rfl, Nat.le_of_ble_eq_true rfl⟩ rfl rfl (by decide) (fun _ => rfl) (fun a6 H locs hP hD hS => ?_)
  refine W.widen (k := 9) (n := 2959) (Nat.le_of_ble_eq_true rfl) (Nat.le_of_ble_eq_true rfl) ?_
  have hP : va_P D vwCl [(t, .inr (0, [.ref fa, .ref q1, .ref q3, .null, .ref pr])), (q1, .inr (1, [.ref (a2 0), .ref (a2 1)])), (a2 0, .inl (cI, 1440, .inl (fun _ => 0))), (a2 1, .inl (cI, 10, .inl (fun _ => 0))), (q3, .inr (1, [.ref (a4 0), .ref (a4 1)])), (a4 0, .inl (cI, 1440, .inl (fun _ => 0))), (a4 1, .inl (cI, 10, .inl (fun _ => 0))), (q5, .inr (6, [.ref fa, .ref q1, .ref q3, .ref (a6 0), .ref (a6 1), .ref pr, .int (0 : Int32), .int (0 : Int32), .int (0 : Int32), .int (-1 : Int32), .int (0 : Int32), .int (0 : Int32)])), (a6 0, .inl (cI, 38, .inl (kValue0))), (a6 1, .inl (cI, 5, .inl (fun _ => 0)))] H := hP
  have hD : va_D A [(t, .inr (0, [.ref fa, .ref q1, .ref q3, .null, .ref pr])), (q1, .inr (1, [.ref (a2 0), .ref (a2 1)])), (a2 0, .inl (cI, 1440, .inl (fun _ => 0))), (a2 1, .inl (cI, 10, .inl (fun _ => 0))), (q3, .inr (1, [.ref (a4 0), .ref (a4 1)])), (a4 0, .inl (cI, 1440, .inl (fun _ => 0))), (a4 1, .inl (cI, 10, .inl (fun _ => 0))), (q5, .inr (6, [.ref fa, .ref q1, .ref q3, .ref (a6 0), .ref (a6 1), .ref pr, .int (0 : Int32), .int (0 : Int32), .int (0 : Int32), .int (-1 : Int32), .int (0 : Int32), .int (0 : Int32)])), (a6 0, .inl (cI, 38, .inl (kValue0))), (a6 1, .inl (cI, 5, .inl (fun _ => 0)))] := hD
  refine va_putF (D := D) (ci := 0) (v := .ref q5) (ty := (.object "RuleHall$Search")) (C := RX0) (T := TX0) (N := 5) hx hb hts in_X0 tyX0 tyX0_ok nmX0 hown hK hP hD hS 0 rfl rfl 3 (by decide) (hts _ kf_X0_33) (fun _ h9 => h9) rfl hin rfl (by decide +kernel) rfl rfl (Nat.le_of_ble_eq_true rfl) dX0_init_54 (fun H locs hP hD hS => ?_)
  have hP : va_P D vwCl [(t, .inr (0, [.ref fa, .ref q1, .ref q3, .ref q5, .ref pr])), (q1, .inr (1, [.ref (a2 0), .ref (a2 1)])), (a2 0, .inl (cI, 1440, .inl (fun _ => 0))), (a2 1, .inl (cI, 10, .inl (fun _ => 0))), (q3, .inr (1, [.ref (a4 0), .ref (a4 1)])), (a4 0, .inl (cI, 1440, .inl (fun _ => 0))), (a4 1, .inl (cI, 10, .inl (fun _ => 0))), (q5, .inr (6, [.ref fa, .ref q1, .ref q3, .ref (a6 0), .ref (a6 1), .ref pr, .int (0 : Int32), .int (0 : Int32), .int (0 : Int32), .int (-1 : Int32), .int (0 : Int32), .int (0 : Int32)])), (a6 0, .inl (cI, 38, .inl (kValue0))), (a6 1, .inl (cI, 5, .inl (fun _ => 0)))] H := hP
  have hD : va_D A [(t, .inr (0, [.ref fa, .ref q1, .ref q3, .ref q5, .ref pr])), (q1, .inr (1, [.ref (a2 0), .ref (a2 1)])), (a2 0, .inl (cI, 1440, .inl (fun _ => 0))), (a2 1, .inl (cI, 10, .inl (fun _ => 0))), (q3, .inr (1, [.ref (a4 0), .ref (a4 1)])), (a4 0, .inl (cI, 1440, .inl (fun _ => 0))), (a4 1, .inl (cI, 10, .inl (fun _ => 0))), (q5, .inr (6, [.ref fa, .ref q1, .ref q3, .ref (a6 0), .ref (a6 1), .ref pr, .int (0 : Int32), .int (0 : Int32), .int (0 : Int32), .int (-1 : Int32), .int (0 : Int32), .int (0 : Int32)])), (a6 0, .inl (cI, 38, .inl (kValue0))), (a6 1, .inl (cI, 5, .inl (fun _ => 0)))] := hD
  exact k_nret (fun k => [q1, a2 0, a2 1, q3, a4 0, a4 1, q5, a6 0, a6 1].getD k 0) hx hb hr hlocks hK hP hD hS dX0_init_57 hQ rfl
