theorem kf_X3_13 : Cond.fieldLink RX3 13 "RuleHall$Journal" "puts" "[Z" ∈ kT := k_in 143 (by decide +kernel)
theorem kf_X3_17 : Cond.fieldLink RX3 17 "RuleHall$Journal" "who" "[I" ∈ kT := k_in 144 (by decide +kernel)
theorem kf_X3_21 : Cond.fieldLink RX3 21 "RuleHall$Journal" "number" "[I" ∈ kT := k_in 145 (by decide +kernel)
theorem kf_X3_7 : Cond.fieldLink RX3 7 "RuleHall$Journal" "size" "I" ∈ kT := k_in 146 (by decide +kernel)
theorem km_X3_24 : Cond.methodLink RX3 24 yX3_add ∈ kT := k_in 853 (by decide +kernel)
theorem km_X3_28 : Cond.methodLink RX3 28 Lib.Math.min.name ∈ kT := k_in 419 (by decide +kernel)
theorem km_X3_34 : Cond.methodLink RX3 34 Lib.Math.max.name ∈ kT := k_in 422 (by decide +kernel)
theorem km_X3_37 : Cond.methodLink RX3 37 yX1_add ∈ kT := k_in 572 (by decide +kernel)
theorem km_X3_42 : Cond.methodLink RX3 42 yX1_drop ∈ kT := k_in 573 (by decide +kernel)
theorem mf_X1_add : MF yX1_add cX1_add 5 none 2 := ⟨k_in 506 (by decide +kernel), k_in 507 (by decide +kernel), k_in 73 (by decide +kernel), k_in 508 (by decide +kernel), ⟨by decide +kernel, by decide +kernel, by decide +kernel⟩⟩
theorem mf_X1_drop : MF yX1_drop cX1_drop 3 none 2 := ⟨k_in 574 (by decide +kernel), k_in 575 (by decide +kernel), k_in 73 (by decide +kernel), k_in 576 (by decide +kernel), ⟨by decide +kernel, by decide +kernel, by decide +kernel⟩⟩
theorem mf_X3_add : MF yX3_add cX3_add 4 (some .boolean) 3 := ⟨k_in 400 (by decide +kernel), k_in 401 (by decide +kernel), k_in 74 (by decide +kernel), k_in 402 (by decide +kernel), ⟨by decide +kernel, by decide +kernel, by decide +kernel⟩⟩
noncomputable def M_Journal_size (t_size : Int32) : Option ((Int32)) := some t_size
set_option maxRecDepth 100000 in
set_option maxHeartbeats 4000000 in
theorem K_Journal_size (l : Launch) (D : va_G) (cB cI cZ cJ : ClassId) (t : Nat) (t_puts_a : Nat) (t_who_a : Nat) (t_number_a : Nat) (t_size : Int32) (out : (Int32)) (hm : M_Journal_size t_size = some out) : KC l yX3_size cX3_size 1 (some .int) { frames := 0, cells := 0, slots := 0, locals := 0 } D (kTy cB cI cZ cJ) [.ref t] [(t, .inr (3, [.ref t_puts_a, .ref t_who_a, .ref t_number_a, .int t_size]))] (some (.int out)) [(t, .inr (3, [.ref t_puts_a, .ref t_who_a, .ref t_number_a, .int t_size]))] := by
  refine KC.of (by decide +kernel) (Nat.le_of_ble_eq_true rfl) ?_
  intro p e s m below meth c A ls args Q hQ CX hA hK hP hD hl
  obtain ⟨hx, hb, hr, hml, hown, hts, hlocks⟩ := CX
  have hown : s.vm.findClass RX3 = some m.cls := hown
  have hS : va_S A s.heap s.heap [] := va_S.rf
  have hl : lv_has ls 1 [(0, .ref t)] := hl
  unfold M_Journal_size at hm
  obtain ⟨H, eH⟩ : ∃ H, H = s.heap := ⟨_, rfl⟩
  obtain ⟨locs, el⟩ : ∃ x : List Loc, x = [] := ⟨_, rfl⟩
  have hP : va_P D vwCl [(t, .inr (3, [.ref t_puts_a, .ref t_who_a, .ref t_number_a, .int t_size]))] H := eH ▸ hP
  have hS : va_S A s.heap H locs := by rw [eH, el]; exact hS
  suffices hW : W p l e { frames := 0, cells := 0, slots := 0, locals := 0 } s m args below meth c H locs 0 0 Q (F0 m 0 ls []) by rw [eH, el] at hW; exact hW
  clear eH el
  refine lv_aload_n hx hb dX3_size_0 rfl (lv_at hl 0 rfl) ?_
  refine va_get (D := D) (ci := 3) (v := .int t_size) (C := RX3) (T := TX3) (N := 4) hx hb hts in_X3 hown hK hP 0 rfl rfl 3 (by decide) (hts _ kf_X3_7) (fun _ h9 => h9) rfl dX3_size_1 ?_
  have ho := Option.some.inj hm
  exact k_iret hx hb hr hlocks hK hP hD hS dX3_size_4 hQ (by rw [← ho]) rfl
noncomputable def M_Journal_add (t_N : Nat) (t_puts : Nat → Int32) (t_who : Nat → Int32) (t_number : Nat → Int32) (t_size : Int32) (x0 : Int32) (x1 : Int32) (x2 : Int32) : Option ((Int32) × (Nat → Int32) × (Nat → Int32) × (Nat → Int32) × (Int32)) := if t_size < (Int32.ofNat t_N) then (gd_ t_size t_N <| lt_ (upd t_puts t_size.toNatClampNeg (vp_nar .boolean x0)) fun f1 => gd_ t_size t_N <| lt_ (upd t_who t_size.toNatClampNeg x1) fun f2 => gd_ t_size t_N <| lt_ (upd t_number t_size.toNatClampNeg x2) fun f3 => lt_ ((t_size + (1 : Int32))) fun v4 => some ((1 : Int32), f1, f2, f3, v4)) else (some ((0 : Int32), t_puts, t_who, t_number, t_size))
set_option maxRecDepth 100000 in
set_option maxHeartbeats 4000000 in
theorem K_Journal_add (l : Launch) (D : va_G) (cB cI cZ cJ : ClassId) (t : Nat) (t_puts_a : Nat) (t_who_a : Nat) (t_number_a : Nat) (t_N : Nat) (t_size : Int32) (t_puts : Nat → Int32) (t_who : Nat → Int32) (t_number : Nat → Int32) (x0 : Int32) (x1 : Int32) (x2 : Int32) (out : (Int32) × (Nat → Int32) × (Nat → Int32) × (Nat → Int32) × (Int32)) (hm : M_Journal_add t_N t_puts t_who t_number t_size x0 x1 x2 = some out) : KC l yX3_add cX3_add 4 (some .boolean) { frames := 0, cells := 0, slots := 0, locals := 0 } D (kTy cB cI cZ cJ) [.ref t, .int x0, .int x1, .int x2] [(t, .inr (3, [.ref t_puts_a, .ref t_who_a, .ref t_number_a, .int t_size])), (t_puts_a, .inl (cZ, t_N, .inl t_puts)), (t_who_a, .inl (cI, t_N, .inl t_who)), (t_number_a, .inl (cI, t_N, .inl t_number))] (some (.int out.1)) [(t, .inr (3, [.ref t_puts_a, .ref t_who_a, .ref t_number_a, .int out.2.2.2.2])), (t_puts_a, .inl (cZ, t_N, .inl out.2.1)), (t_who_a, .inl (cI, t_N, .inl out.2.2.1)), (t_number_a, .inl (cI, t_N, .inl out.2.2.2.1))] := by
  refine KC.of (by decide +kernel) (Nat.le_of_ble_eq_true rfl) ?_
  intro p e s m below meth c A ls args Q hQ CX hA hK hP hD hl
  obtain ⟨hx, hb, hr, hml, hown, hts, hlocks⟩ := CX
  have hown : s.vm.findClass RX3 = some m.cls := hown
  have hS : va_S A s.heap s.heap [] := va_S.rf
  have hl : lv_has ls 4 [(0, .ref t), (1, .int x0), (2, .int x1), (3, .int x2)] := hl
  unfold M_Journal_add at hm
  obtain ⟨H, eH⟩ : ∃ H, H = s.heap := ⟨_, rfl⟩
  obtain ⟨locs, el⟩ : ∃ x : List Loc, x = [] := ⟨_, rfl⟩
  have hP : va_P D vwCl [(t, .inr (3, [.ref t_puts_a, .ref t_who_a, .ref t_number_a, .int t_size])), (t_puts_a, .inl (cZ, t_N, .inl t_puts)), (t_who_a, .inl (cI, t_N, .inl t_who)), (t_number_a, .inl (cI, t_N, .inl t_number))] H := eH ▸ hP
  have hS : va_S A s.heap H locs := by rw [eH, el]; exact hS
  suffices hW : W p l e { frames := 0, cells := 0, slots := 0, locals := 0 } s m args below meth c H locs 0 0 Q (F0 m 0 ls []) by rw [eH, el] at hW; exact hW
  clear eH el
  refine lv_aload_n hx hb dX3_add_0 rfl (lv_at hl 0 rfl) ?_
  refine va_get (D := D) (ci := 3) (v := .int t_size) (C := RX3) (T := TX3) (N := 4) hx hb hts in_X3 hown hK hP 0 rfl rfl 3 (by decide) (hts _ kf_X3_7) (fun _ h9 => h9) rfl dX3_add_1 ?_
  refine lv_aload_n hx hb dX3_add_4 rfl (lv_at hl 0 rfl) ?_
  refine va_get (D := D) (ci := 3) (v := .ref t_who_a) (C := RX3) (T := TX3) (N := 4) hx hb hts in_X3 hown hK hP 0 rfl rfl 1 (by decide) (hts _ kf_X3_17) (fun _ h9 => h9) rfl dX3_add_5 ?_
  refine va_alen (v := (Int32.ofNat t_N)) hx hb hK hP 2 1 rfl rfl rfl dX3_add_8 ?_
  refine lv_icmp_lt (tgt := 14) hx hb dX3_add_9 (by decide) (fun hc => ?_) (fun hc => ?_)
  · have hm := if_t hc hm
    refine lv_aload_n hx hb dX3_add_14 rfl (lv_at hl 0 rfl) ?_
    refine va_get (D := D) (ci := 3) (v := .ref t_puts_a) (C := RX3) (T := TX3) (N := 4) hx hb hts in_X3 hown hK hP 0 rfl rfl 0 (by decide) (hts _ kf_X3_13) (fun _ h9 => h9) rfl dX3_add_15 ?_
    refine lv_aload_n hx hb dX3_add_18 rfl (lv_at hl 0 rfl) ?_
    refine va_get (D := D) (ci := 3) (v := .int t_size) (C := RX3) (T := TX3) (N := 4) hx hb hts in_X3 hown hK hP 0 rfl rfl 3 (by decide) (hts _ kf_X3_7) (fun _ h9 => h9) rfl dX3_add_19 ?_
    refine lv_iload_n hx hb dX3_add_22 rfl (lv_at hl 1 rfl) ?_
    refine k_zast hx hb hK hP hD hS 1 2 rfl rfl (gd_in hm) dX3_add_23 (fun f1 ef1 H locs hP hD hS => ?_)
    have hm := lt_at ef1 (gd_go hm)
    have hP : va_P D vwCl [(t, .inr (3, [.ref t_puts_a, .ref t_who_a, .ref t_number_a, .int t_size])), (t_puts_a, .inl (cZ, t_N, .inl f1)), (t_who_a, .inl (cI, t_N, .inl t_who)), (t_number_a, .inl (cI, t_N, .inl t_number))] H := hP
    have hD : va_D A [(t, .inr (3, [.ref t_puts_a, .ref t_who_a, .ref t_number_a, .int t_size])), (t_puts_a, .inl (cZ, t_N, .inl f1)), (t_who_a, .inl (cI, t_N, .inl t_who)), (t_number_a, .inl (cI, t_N, .inl t_number))] := hD
    refine lv_aload_n hx hb dX3_add_24 rfl (lv_at hl 0 rfl) ?_
    refine va_get (D := D) (ci := 3) (v := .ref t_who_a) (C := RX3) (T := TX3) (N := 4) hx hb hts in_X3 hown hK hP 0 rfl rfl 1 (by decide) (hts _ kf_X3_17) (fun _ h9 => h9) rfl dX3_add_25 ?_
    refine lv_aload_n hx hb dX3_add_28 rfl (lv_at hl 0 rfl) ?_
    refine va_get (D := D) (ci := 3) (v := .int t_size) (C := RX3) (T := TX3) (N := 4) hx hb hts in_X3 hown hK hP 0 rfl rfl 3 (by decide) (hts _ kf_X3_7) (fun _ h9 => h9) rfl dX3_add_29 ?_
    refine lv_iload_n hx hb dX3_add_32 rfl (lv_at hl 2 rfl) ?_
    refine k_iast hx hb hK hP hD hS 2 1 rfl rfl (gd_in hm) dX3_add_33 (fun f2 ef2 H locs hP hD hS => ?_)
    have hm := lt_at ef2 (gd_go hm)
    have hP : va_P D vwCl [(t, .inr (3, [.ref t_puts_a, .ref t_who_a, .ref t_number_a, .int t_size])), (t_puts_a, .inl (cZ, t_N, .inl f1)), (t_who_a, .inl (cI, t_N, .inl f2)), (t_number_a, .inl (cI, t_N, .inl t_number))] H := hP
    have hD : va_D A [(t, .inr (3, [.ref t_puts_a, .ref t_who_a, .ref t_number_a, .int t_size])), (t_puts_a, .inl (cZ, t_N, .inl f1)), (t_who_a, .inl (cI, t_N, .inl f2)), (t_number_a, .inl (cI, t_N, .inl t_number))] := hD
    refine lv_aload_n hx hb dX3_add_34 rfl (lv_at hl 0 rfl) ?_
    refine va_get (D := D) (ci := 3) (v := .ref t_number_a) (C := RX3) (T := TX3) (N := 4) hx hb hts in_X3 hown hK hP 0 rfl rfl 2 (by decide) (hts _ kf_X3_21) (fun _ h9 => h9) rfl dX3_add_35 ?_
    refine lv_aload_n hx hb dX3_add_38 rfl (lv_at hl 0 rfl) ?_
    refine va_get (D := D) (ci := 3) (v := .int t_size) (C := RX3) (T := TX3) (N := 4) hx hb hts in_X3 hown hK hP 0 rfl rfl 3 (by decide) (hts _ kf_X3_7) (fun _ h9 => h9) rfl dX3_add_39 ?_
    refine lv_iload_n hx hb dX3_add_42 rfl (lv_at hl 3 rfl) ?_
    refine k_iast hx hb hK hP hD hS 3 1 rfl rfl (gd_in hm) dX3_add_43 (fun f3 ef3 H locs hP hD hS => ?_)
    have hm := lt_at ef3 (gd_go hm)
    have hP : va_P D vwCl [(t, .inr (3, [.ref t_puts_a, .ref t_who_a, .ref t_number_a, .int t_size])), (t_puts_a, .inl (cZ, t_N, .inl f1)), (t_who_a, .inl (cI, t_N, .inl f2)), (t_number_a, .inl (cI, t_N, .inl f3))] H := hP
    have hD : va_D A [(t, .inr (3, [.ref t_puts_a, .ref t_who_a, .ref t_number_a, .int t_size])), (t_puts_a, .inl (cZ, t_N, .inl f1)), (t_who_a, .inl (cI, t_N, .inl f2)), (t_number_a, .inl (cI, t_N, .inl f3))] := hD
    refine lv_aload_n hx hb dX3_add_44 rfl (lv_at hl 0 rfl) ?_
    refine lv_dup hx hb dX3_add_45 rfl ?_
    refine va_get (D := D) (ci := 3) (v := .int t_size) (C := RX3) (T := TX3) (N := 4) hx hb hts in_X3 hown hK hP 0 rfl rfl 3 (by decide) (hts _ kf_X3_7) (fun _ h9 => h9) rfl dX3_add_46 ?_
    refine lv_iconst (v := (1 : Int32)) hx hb dX3_add_49 (by decide) ?_
    refine lv_iadd hx hb dX3_add_50 ?_
    refine lv_topi (fun v4 ev4 => ?_)
    have hm := lt_at ev4 hm
    refine va_put (D := D) (ci := 3) (v := .int v4) (ty := .int) (C := RX3) (T := TX3) (N := 4) hx hb hts in_X3 tyX3 tyX3_ok nmX3 hown hK hP hD hS 0 rfl rfl 3 (by decide) (hts _ kf_X3_7) (fun _ h9 => h9) rfl (by decide +kernel) rfl rfl (Nat.le_of_ble_eq_true rfl) dX3_add_51 (fun H locs hP hD hS => ?_)
    have hP : va_P D vwCl [(t, .inr (3, [.ref t_puts_a, .ref t_who_a, .ref t_number_a, .int v4])), (t_puts_a, .inl (cZ, t_N, .inl f1)), (t_who_a, .inl (cI, t_N, .inl f2)), (t_number_a, .inl (cI, t_N, .inl f3))] H := hP
    have hD : va_D A [(t, .inr (3, [.ref t_puts_a, .ref t_who_a, .ref t_number_a, .int v4])), (t_puts_a, .inl (cZ, t_N, .inl f1)), (t_who_a, .inl (cI, t_N, .inl f2)), (t_number_a, .inl (cI, t_N, .inl f3))] := hD
    refine lv_iconst (v := (1 : Int32)) hx hb dX3_add_54 (by decide) ?_
    have ho := Option.some.inj hm
    exact k_zret (by decide +kernel) hx hb hr hlocks hK hP hD hS dX3_add_55 hQ (by rw [← ho]) (by rw [← ho])
  · have hm := if_f hc hm
    refine lv_iconst (v := (0 : Int32)) hx hb dX3_add_12 (by decide) ?_
    have ho := Option.some.inj hm
    exact k_zret (by decide +kernel) hx hb hr hlocks hK hP hD hS dX3_add_13 hQ (by rw [← ho]) (by rw [← ho])
noncomputable def M_Journal_append_L2 (F : Nat) (t_N : Nat) (o_N : Nat) (o_puts : Nat → Int32) (o_who : Nat → Int32) (o_number : Nat → Int32) (o_size : Int32) : Nat → Int32 → (Nat → Int32) → (Nat → Int32) → (Nat → Int32) → (Int32) → Option ((Nat → Int32) × (Nat → Int32) × (Nat → Int32) × (Int32))
  | 0, _, _, _, _, _ => none
  | n + 1, y2, c_t_puts, c_t_who, c_t_number, c_t_size => if o_size ≤ y2 then (some (c_t_puts, c_t_who, c_t_number, c_t_size)) else (gd_ y2 o_N <| gd_ y2 o_N <| gd_ y2 o_N <| bd_ (M_Journal_add t_N c_t_puts c_t_who c_t_number c_t_size (o_puts y2.toNatClampNeg) (o_who y2.toNatClampNeg) (o_number y2.toNatClampNeg)) fun z1 => lt_ (y2 + (1 : Int32)) fun v2 => M_Journal_append_L2 F t_N o_N o_puts o_who o_number o_size n v2 z1.2.1 z1.2.2.1 z1.2.2.2.1 z1.2.2.2.2)
noncomputable def M_Journal_append (F : Nat) (t_N : Nat) (o_N : Nat) (t_puts : Nat → Int32) (t_who : Nat → Int32) (t_number : Nat → Int32) (t_size : Int32) (o_puts : Nat → Int32) (o_who : Nat → Int32) (o_number : Nat → Int32) (o_size : Int32) : Option ((Nat → Int32) × (Nat → Int32) × (Nat → Int32) × (Int32)) := bd_ (M_Journal_append_L2 F t_N o_N o_puts o_who o_number o_size F (0 : Int32) t_puts t_who t_number t_size) fun z3 => some (z3.1, z3.2.1, z3.2.2.1, z3.2.2.2)
set_option maxRecDepth 100000 in
set_option maxHeartbeats 4000000 in
theorem K_Journal_append (l : Launch) (D : va_G) (cB cI cZ cJ : ClassId) (t : Nat) (t_puts_a : Nat) (t_who_a : Nat) (t_number_a : Nat) (o : Nat) (o_puts_a : Nat) (o_who_a : Nat) (o_number_a : Nat) (t_N : Nat) (o_N : Nat) (t_size : Int32) (t_puts : Nat → Int32) (t_who : Nat → Int32) (t_number : Nat → Int32) (o_size : Int32) (o_puts : Nat → Int32) (o_who : Nat → Int32) (o_number : Nat → Int32) (F : Nat) (out : (Nat → Int32) × (Nat → Int32) × (Nat → Int32) × (Int32)) (hm : M_Journal_append F t_N o_N t_puts t_who t_number t_size o_puts o_who o_number o_size = some out) : KC l yX3_append cX3_append 3 none { frames := 1, cells := 0, slots := 0, locals := 23 } D (kTy cB cI cZ cJ) [.ref t, .ref o] [(t, .inr (3, [.ref t_puts_a, .ref t_who_a, .ref t_number_a, .int t_size])), (t_puts_a, .inl (cZ, t_N, .inl t_puts)), (t_who_a, .inl (cI, t_N, .inl t_who)), (t_number_a, .inl (cI, t_N, .inl t_number)), (o, .inr (3, [.ref o_puts_a, .ref o_who_a, .ref o_number_a, .int o_size])), (o_puts_a, .inl (cZ, o_N, .inl o_puts)), (o_who_a, .inl (cI, o_N, .inl o_who)), (o_number_a, .inl (cI, o_N, .inl o_number))] none [(t, .inr (3, [.ref t_puts_a, .ref t_who_a, .ref t_number_a, .int out.2.2.2])), (t_puts_a, .inl (cZ, t_N, .inl out.1)), (t_who_a, .inl (cI, t_N, .inl out.2.1)), (t_number_a, .inl (cI, t_N, .inl out.2.2.1)), (o, .inr (3, [.ref o_puts_a, .ref o_who_a, .ref o_number_a, .int o_size])), (o_puts_a, .inl (cZ, o_N, .inl o_puts)), (o_who_a, .inl (cI, o_N, .inl o_who)), (o_number_a, .inl (cI, o_N, .inl o_number))] := by
  refine KC.of (by decide +kernel) (Nat.le_of_ble_eq_true rfl) ?_
  intro p e s m below meth c A ls args Q hQ CX hA hK hP hD hl
  obtain ⟨hx, hb, hr, hml, hown, hts, hlocks⟩ := CX
  have hown : s.vm.findClass RX3 = some m.cls := hown
  have hS : va_S A s.heap s.heap [] := va_S.rf
  have hl : lv_has ls 3 [(0, .ref t), (1, .ref o)] := hl
  have L2 : ∀ (n : Nat) (y2 : Int32) (c_t_puts : Nat → Int32) (c_t_who : Nat → Int32) (c_t_number : Nat → Int32) (c_t_size : Int32) (z : ((Nat → Int32) × (Nat → Int32) × (Nat → Int32) × (Int32))), M_Journal_append_L2 F t_N o_N o_puts o_who o_number o_size n y2 c_t_puts c_t_who c_t_number c_t_size = some z →
      (∀ (H : Heap) (locs : List Loc) (ls : Array Slot), va_P D vwCl [(t, .inr (3, [.ref t_puts_a, .ref t_who_a, .ref t_number_a, .int z.2.2.2])), (t_puts_a, .inl (cZ, t_N, .inl z.1)), (t_who_a, .inl (cI, t_N, .inl z.2.1)), (t_number_a, .inl (cI, t_N, .inl z.2.2.1)), (o, .inr (3, [.ref o_puts_a, .ref o_who_a, .ref o_number_a, .int o_size])), (o_puts_a, .inl (cZ, o_N, .inl o_puts)), (o_who_a, .inl (cI, o_N, .inl o_who)), (o_number_a, .inl (cI, o_N, .inl o_number))] H → va_D A [(t, .inr (3, [.ref t_puts_a, .ref t_who_a, .ref t_number_a, .int z.2.2.2])), (t_puts_a, .inl (cZ, t_N, .inl z.1)), (t_who_a, .inl (cI, t_N, .inl z.2.1)), (t_number_a, .inl (cI, t_N, .inl z.2.2.1)), (o, .inr (3, [.ref o_puts_a, .ref o_who_a, .ref o_number_a, .int o_size])), (o_puts_a, .inl (cZ, o_N, .inl o_puts)), (o_who_a, .inl (cI, o_N, .inl o_who)), (o_number_a, .inl (cI, o_N, .inl o_number))] → va_S A s.heap H locs → lv_has ls 3 [] → W p l e { frames := 1, cells := 0, slots := 0, locals := 23 } s m args below meth c H locs 0 0 Q (F0 m 39 ls [])) →
      ∀ (H : Heap) (locs : List Loc) (ls : Array Slot), va_P D vwCl [(t, .inr (3, [.ref t_puts_a, .ref t_who_a, .ref t_number_a, .int c_t_size])), (t_puts_a, .inl (cZ, t_N, .inl c_t_puts)), (t_who_a, .inl (cI, t_N, .inl c_t_who)), (t_number_a, .inl (cI, t_N, .inl c_t_number)), (o, .inr (3, [.ref o_puts_a, .ref o_who_a, .ref o_number_a, .int o_size])), (o_puts_a, .inl (cZ, o_N, .inl o_puts)), (o_who_a, .inl (cI, o_N, .inl o_who)), (o_number_a, .inl (cI, o_N, .inl o_number))] H → va_D A [(t, .inr (3, [.ref t_puts_a, .ref t_who_a, .ref t_number_a, .int c_t_size])), (t_puts_a, .inl (cZ, t_N, .inl c_t_puts)), (t_who_a, .inl (cI, t_N, .inl c_t_who)), (t_number_a, .inl (cI, t_N, .inl c_t_number)), (o, .inr (3, [.ref o_puts_a, .ref o_who_a, .ref o_number_a, .int o_size])), (o_puts_a, .inl (cZ, o_N, .inl o_puts)), (o_who_a, .inl (cI, o_N, .inl o_who)), (o_number_a, .inl (cI, o_N, .inl o_number))] → va_S A s.heap H locs → lv_has ls 3 [(2, .int y2), (0, .ref t), (1, .ref o)] → W p l e { frames := 1, cells := 0, slots := 0, locals := 23 } s m args below meth c H locs 0 0 Q (F0 m 2 ls []) := by
    intro  n
    induction n with
    | zero => intro y2 c_t_puts c_t_who c_t_number c_t_size z hm; unfold M_Journal_append_L2 at hm; cases hm
    | succ n ih =>
      intro y2 c_t_puts c_t_who c_t_number c_t_size z hm hE H locs ls hP hD hS hl
      unfold M_Journal_append_L2 at hm
      refine lv_iload_n hx hb dX3_append_2 rfl (lv_at hl 0 rfl) ?_
      refine lv_aload_n hx hb dX3_append_3 rfl (lv_at hl 2 rfl) ?_
      refine va_get (D := D) (ci := 3) (v := .int o_size) (C := RX3) (T := TX3) (N := 4) hx hb hts in_X3 hown hK hP 4 rfl rfl 3 (by decide) (hts _ kf_X3_7) (fun _ h9 => h9) rfl dX3_append_4 ?_
      refine lv_icmp_ge (tgt := 39) hx hb dX3_append_7 (by decide) (fun hc => ?_) (fun hc => ?_)
      · have hm := if_t hc hm
        cases hm
        exact hE H locs ls hP hD hS (lv_sub hl [] rfl)
      · have hm := if_f hc hm
        refine lv_aload_n hx hb dX3_append_10 rfl (lv_at hl 1 rfl) ?_
        refine lv_aload_n hx hb dX3_append_11 rfl (lv_at hl 2 rfl) ?_
        refine va_get (D := D) (ci := 3) (v := .ref o_puts_a) (C := RX3) (T := TX3) (N := 4) hx hb hts in_X3 hown hK hP 4 rfl rfl 0 (by decide) (hts _ kf_X3_13) (fun _ h9 => h9) rfl dX3_append_12 ?_
        refine lv_iload_n hx hb dX3_append_15 rfl (lv_at hl 0 rfl) ?_
        refine va_zald hx hb hK hP 5 2 rfl rfl (gd_in hm) dX3_append_16 ?_
        have hm := gd_go hm
        refine lv_aload_n hx hb dX3_append_17 rfl (lv_at hl 2 rfl) ?_
        refine va_get (D := D) (ci := 3) (v := .ref o_who_a) (C := RX3) (T := TX3) (N := 4) hx hb hts in_X3 hown hK hP 4 rfl rfl 1 (by decide) (hts _ kf_X3_17) (fun _ h9 => h9) rfl dX3_append_18 ?_
        refine lv_iload_n hx hb dX3_append_21 rfl (lv_at hl 0 rfl) ?_
        refine va_iald hx hb hK hP 6 1 rfl rfl (gd_in hm) dX3_append_22 ?_
        have hm := gd_go hm
        refine lv_aload_n hx hb dX3_append_23 rfl (lv_at hl 2 rfl) ?_
        refine va_get (D := D) (ci := 3) (v := .ref o_number_a) (C := RX3) (T := TX3) (N := 4) hx hb hts in_X3 hown hK hP 4 rfl rfl 2 (by decide) (hts _ kf_X3_21) (fun _ h9 => h9) rfl dX3_append_24 ?_
        refine lv_iload_n hx hb dX3_append_27 rfl (lv_at hl 0 rfl) ?_
        refine va_iald hx hb hK hP 7 1 rfl rfl (gd_in hm) dX3_append_28 ?_
        have hm := gd_go hm
        obtain ⟨z1, hz1, hm⟩ := bd_at hm
        refine k_callV (As := [.int (o_puts y2.toNatClampNeg), .int (o_who y2.toNatClampNeg), .int (o_number y2.toNatClampNeg)]) (rest := []) (wr := [(o, .inr (3, [.ref o_puts_a, .ref o_who_a, .ref o_number_a, .int o_size])), (o_puts_a, .inl (cZ, o_N, .inl o_puts)), (o_who_a, .inl (cI, o_N, .inl o_who)), (o_number_a, .inl (cI, o_N, .inl o_number))]) (ws1 := [(t, .inr (3, [.ref t_puts_a, .ref t_who_a, .ref t_number_a, .int z1.2.2.2.2])), (t_puts_a, .inl (cZ, t_N, .inl z1.2.1)), (t_who_a, .inl (cI, t_N, .inl z1.2.2.1)), (t_number_a, .inl (cI, t_N, .inl z1.2.2.2.1)), (o, .inr (3, [.ref o_puts_a, .ref o_who_a, .ref o_number_a, .int o_size])), (o_puts_a, .inl (cZ, o_N, .inl o_puts)), (o_who_a, .inl (cI, o_N, .inl o_who)), (o_number_a, .inl (cI, o_N, .inl o_number))]) [0, 1, 2, 3] [4, 5, 6, 7] [4, 5, 6, 7, 0, 1, 2, 3] (K_Journal_add l D cB cI cZ cJ t t_puts_a t_who_a t_number_a t_N c_t_size c_t_puts c_t_who c_t_number (o_puts y2.toNatClampNeg) (o_who y2.toNatClampNeg) (o_number y2.toNatClampNeg) z1 hz1) mf_X3_add km_X3_24 hx hb hml hown hts hK hP hD hS hA hl.1 ⟨Nat.zero_le _, Nat.zero_le _⟩ dX3_append_29 rfl rfl (Nat.le_of_ble_eq_true rfl) ⟨⟨rfl, rfl⟩, Nat.le_of_ble_eq_true rfl, Nat.le_of_ble_eq_true rfl⟩ rfl rfl (by decide) rfl rfl rfl rfl (fun H locs hP hD hS => ?_)
        have hP : va_P D vwCl [(t, .inr (3, [.ref t_puts_a, .ref t_who_a, .ref t_number_a, .int z1.2.2.2.2])), (t_puts_a, .inl (cZ, t_N, .inl z1.2.1)), (t_who_a, .inl (cI, t_N, .inl z1.2.2.1)), (t_number_a, .inl (cI, t_N, .inl z1.2.2.2.1)), (o, .inr (3, [.ref o_puts_a, .ref o_who_a, .ref o_number_a, .int o_size])), (o_puts_a, .inl (cZ, o_N, .inl o_puts)), (o_who_a, .inl (cI, o_N, .inl o_who)), (o_number_a, .inl (cI, o_N, .inl o_number))] H := hP
        have hD : va_D A [(t, .inr (3, [.ref t_puts_a, .ref t_who_a, .ref t_number_a, .int z1.2.2.2.2])), (t_puts_a, .inl (cZ, t_N, .inl z1.2.1)), (t_who_a, .inl (cI, t_N, .inl z1.2.2.1)), (t_number_a, .inl (cI, t_N, .inl z1.2.2.2.1)), (o, .inr (3, [.ref o_puts_a, .ref o_who_a, .ref o_number_a, .int o_size])), (o_puts_a, .inl (cZ, o_N, .inl o_puts)), (o_who_a, .inl (cI, o_N, .inl o_who)), (o_number_a, .inl (cI, o_N, .inl o_number))] := hD
        refine lv_pop hx hb dX3_append_32 rfl ?_
        obtain ⟨v2, ev2⟩ : ∃ y : Int32, y = y2 + (1 : Int32) := ⟨_, rfl⟩
        have hm := lt_at ev2 hm
        refine lv_iinc (v := v2) (lv' := [(2, .int v2), (0, .ref t), (1, .ref o)]) hx hb dX3_append_33 hl (k := 0) rfl (by rw [ev2]; rfl) (by decide) rfl (fun ls hl => ?_)
        refine lv_goto (tgt := 2) hx hb dX3_append_36 (by decide) ?_
        exact ih v2 z1.2.1 z1.2.2.1 z1.2.2.2.1 z1.2.2.2.2 z hm hE H locs ls hP hD hS (lv_sub hl [0, 1, 2] rfl)
  unfold M_Journal_append at hm
  obtain ⟨H, eH⟩ : ∃ H, H = s.heap := ⟨_, rfl⟩
  obtain ⟨locs, el⟩ : ∃ x : List Loc, x = [] := ⟨_, rfl⟩
  have hP : va_P D vwCl [(t, .inr (3, [.ref t_puts_a, .ref t_who_a, .ref t_number_a, .int t_size])), (t_puts_a, .inl (cZ, t_N, .inl t_puts)), (t_who_a, .inl (cI, t_N, .inl t_who)), (t_number_a, .inl (cI, t_N, .inl t_number)), (o, .inr (3, [.ref o_puts_a, .ref o_who_a, .ref o_number_a, .int o_size])), (o_puts_a, .inl (cZ, o_N, .inl o_puts)), (o_who_a, .inl (cI, o_N, .inl o_who)), (o_number_a, .inl (cI, o_N, .inl o_number))] H := eH ▸ hP
  have hS : va_S A s.heap H locs := by rw [eH, el]; exact hS
  suffices hW : W p l e { frames := 1, cells := 0, slots := 0, locals := 23 } s m args below meth c H locs 0 0 Q (F0 m 0 ls []) by rw [eH, el] at hW; exact hW
  clear eH el
  refine lv_iconst (v := (0 : Int32)) hx hb dX3_append_0 (by decide) ?_
  refine lv_istore_n (lv' := [(2, .int (0 : Int32)), (0, .ref t), (1, .ref o)]) hx hb dX3_append_1 rfl hl (by decide) rfl (fun ls hl => ?_)
  obtain ⟨z3, hz3, hm⟩ := bd_at hm
  refine L2  F (0 : Int32) t_puts t_who t_number t_size z3 hz3 (fun H locs ls hP hD hS hl => ?_) H locs ls hP hD hS (lv_sub hl [0, 1, 2] rfl)
  have ho := Option.some.inj hm
  exact k_vret hx hb hr hlocks hK hP hD hS dX3_append_39 hQ rfl (by rw [← ho])
noncomputable def M_Journal_shorten (t_size : Int32) (x0 : Int32) : Option ((Int32)) := lt_ ((if x0 < t_size then x0 else t_size)) fun v1 => lt_ ((if (0 : Int32) < v1 then v1 else (0 : Int32))) fun v2 => some v2
set_option maxRecDepth 100000 in
set_option maxHeartbeats 4000000 in
theorem K_Journal_shorten (l : Launch) (D : va_G) (cB cI cZ cJ : ClassId) (t : Nat) (t_puts_a : Nat) (t_who_a : Nat) (t_number_a : Nat) (t_size : Int32) (x0 : Int32) (out : (Int32)) (hm : M_Journal_shorten t_size x0 = some out) : KC l yX3_shorten cX3_shorten 2 none { frames := 1, cells := 0, slots := 0, locals := 21 } D (kTy cB cI cZ cJ) [.ref t, .int x0] [(t, .inr (3, [.ref t_puts_a, .ref t_who_a, .ref t_number_a, .int t_size]))] none [(t, .inr (3, [.ref t_puts_a, .ref t_who_a, .ref t_number_a, .int out]))] := by
  refine KC.of (by decide +kernel) (Nat.le_of_ble_eq_true rfl) ?_
  intro p e s m below meth c A ls args Q hQ CX hA hK hP hD hl
  obtain ⟨hx, hb, hr, hml, hown, hts, hlocks⟩ := CX
  have hown : s.vm.findClass RX3 = some m.cls := hown
  have hS : va_S A s.heap s.heap [] := va_S.rf
  have hl : lv_has ls 2 [(0, .ref t), (1, .int x0)] := hl
  unfold M_Journal_shorten at hm
  obtain ⟨H, eH⟩ : ∃ H, H = s.heap := ⟨_, rfl⟩
  obtain ⟨locs, el⟩ : ∃ x : List Loc, x = [] := ⟨_, rfl⟩
  have hP : va_P D vwCl [(t, .inr (3, [.ref t_puts_a, .ref t_who_a, .ref t_number_a, .int t_size]))] H := eH ▸ hP
  have hS : va_S A s.heap H locs := by rw [eH, el]; exact hS
  suffices hW : W p l e { frames := 1, cells := 0, slots := 0, locals := 21 } s m args below meth c H locs 0 0 Q (F0 m 0 ls []) by rw [eH, el] at hW; exact hW
  clear eH el
  refine lv_aload_n hx hb dX3_shorten_0 rfl (lv_at hl 0 rfl) ?_
  refine lv_iconst (v := (0 : Int32)) hx hb dX3_shorten_1 (by decide) ?_
  refine lv_aload_n hx hb dX3_shorten_2 rfl (lv_at hl 0 rfl) ?_
  refine va_get (D := D) (ci := 3) (v := .int t_size) (C := RX3) (T := TX3) (N := 4) hx hb hts in_X3 hown hK hP 0 rfl rfl 3 (by decide) (hts _ kf_X3_7) (fun _ h9 => h9) rfl dX3_shorten_3 ?_
  refine lv_iload_n hx hb dX3_shorten_6 rfl (lv_at hl 1 rfl) ?_
  refine va_mmin hx hb (hml.trans hl.1.symm) hown (hts _ km_X3_28) (hts _ k_min1) (hts _ k_math) (hts _ k_min2) (Nat.le_of_ble_eq_true rfl) (Nat.le_of_ble_eq_true rfl) (Nat.zero_le _) (Nat.zero_le _) dX3_shorten_7 ?_
  refine lv_topi (fun v1 ev1 => ?_)
  have hm := lt_at ev1 hm
  refine va_mmax hx hb (hml.trans hl.1.symm) hown (hts _ km_X3_34) (hts _ k_max1) (hts _ k_math) (hts _ k_max2) (Nat.le_of_ble_eq_true rfl) (Nat.le_of_ble_eq_true rfl) (Nat.zero_le _) (Nat.zero_le _) dX3_shorten_10 ?_
  refine lv_topi (fun v2 ev2 => ?_)
  have hm := lt_at ev2 hm
  refine va_put (D := D) (ci := 3) (v := .int v2) (ty := .int) (C := RX3) (T := TX3) (N := 4) hx hb hts in_X3 tyX3 tyX3_ok nmX3 hown hK hP hD hS 0 rfl rfl 3 (by decide) (hts _ kf_X3_7) (fun _ h9 => h9) rfl (by decide +kernel) rfl rfl (Nat.le_of_ble_eq_true rfl) dX3_shorten_13 (fun H locs hP hD hS => ?_)
  have hP : va_P D vwCl [(t, .inr (3, [.ref t_puts_a, .ref t_who_a, .ref t_number_a, .int v2]))] H := hP
  have hD : va_D A [(t, .inr (3, [.ref t_puts_a, .ref t_who_a, .ref t_number_a, .int v2]))] := hD
  have ho := Option.some.inj hm
  exact k_vret hx hb hr hlocks hK hP hD hS dX3_shorten_16 hQ rfl (by rw [← ho])
noncomputable def M_Journal_replay_L2 (F : Nat) (t_N : Nat) (t_puts : Nat → Int32) (t_who : Nat → Int32) (t_number : Nat → Int32) (t_size : Int32) : Nat → Int32 → (Nat → Int32) → (Nat → Int32) → Option ((Nat → Int32) × (Nat → Int32))
  | 0, _, _, _ => none
  | n + 1, y2, c_o_row, c_o_count => if t_size ≤ y2 then (some (c_o_row, c_o_count)) else (gd_ y2 t_N <| if (t_puts y2.toNatClampNeg) = 0 then (gd_ y2 t_N <| gd_ y2 t_N <| bd_ (M_FactSet_drop c_o_row c_o_count (t_who y2.toNatClampNeg) (t_number y2.toNatClampNeg)) fun z1 => lt_ (y2 + (1 : Int32)) fun v2 => M_Journal_replay_L2 F t_N t_puts t_who t_number t_size n v2 z1.1 z1.2) else (gd_ y2 t_N <| gd_ y2 t_N <| bd_ (M_FactSet_add c_o_row c_o_count (t_who y2.toNatClampNeg) (t_number y2.toNatClampNeg)) fun z3 => lt_ (y2 + (1 : Int32)) fun v4 => M_Journal_replay_L2 F t_N t_puts t_who t_number t_size n v4 z3.1 z3.2))
noncomputable def M_Journal_replay (F : Nat) (t_N : Nat) (t_puts : Nat → Int32) (t_who : Nat → Int32) (t_number : Nat → Int32) (t_size : Int32) (o_row : Nat → Int32) (o_count : Nat → Int32) : Option ((Nat → Int32) × (Nat → Int32)) := bd_ (M_Journal_replay_L2 F t_N t_puts t_who t_number t_size F (0 : Int32) o_row o_count) fun z5 => some (z5.1, z5.2)
set_option maxRecDepth 100000 in
set_option maxHeartbeats 4000000 in
theorem K_Journal_replay (l : Launch) (D : va_G) (cB cI cZ cJ : ClassId) (t : Nat) (t_puts_a : Nat) (t_who_a : Nat) (t_number_a : Nat) (o : Nat) (o_row_a : Nat) (o_count_a : Nat) (t_N : Nat) (t_size : Int32) (t_puts : Nat → Int32) (t_who : Nat → Int32) (t_number : Nat → Int32) (o_row : Nat → Int32) (o_count : Nat → Int32) (F : Nat) (out : (Nat → Int32) × (Nat → Int32)) (hm : M_Journal_replay F t_N t_puts t_who t_number t_size o_row o_count = some out) : KC l yX3_replay cX3_replay 3 none { frames := 2, cells := 0, slots := 0, locals := 44 } D (kTy cB cI cZ cJ) [.ref t, .ref o] [(t, .inr (3, [.ref t_puts_a, .ref t_who_a, .ref t_number_a, .int t_size])), (t_puts_a, .inl (cZ, t_N, .inl t_puts)), (t_who_a, .inl (cI, t_N, .inl t_who)), (t_number_a, .inl (cI, t_N, .inl t_number)), (o, .inr (1, [.ref o_row_a, .ref o_count_a])), (o_row_a, .inl (cI, 1440, .inl o_row)), (o_count_a, .inl (cI, 10, .inl o_count))] none [(t, .inr (3, [.ref t_puts_a, .ref t_who_a, .ref t_number_a, .int t_size])), (t_puts_a, .inl (cZ, t_N, .inl t_puts)), (t_who_a, .inl (cI, t_N, .inl t_who)), (t_number_a, .inl (cI, t_N, .inl t_number)), (o, .inr (1, [.ref o_row_a, .ref o_count_a])), (o_row_a, .inl (cI, 1440, .inl out.1)), (o_count_a, .inl (cI, 10, .inl out.2))] := by
  refine KC.of (by decide +kernel) (Nat.le_of_ble_eq_true rfl) ?_
  intro p e s m below meth c A ls args Q hQ CX hA hK hP hD hl
  obtain ⟨hx, hb, hr, hml, hown, hts, hlocks⟩ := CX
  have hown : s.vm.findClass RX3 = some m.cls := hown
  have hS : va_S A s.heap s.heap [] := va_S.rf
  have hl : lv_has ls 3 [(0, .ref t), (1, .ref o)] := hl
  have L2 : ∀ (n : Nat) (y2 : Int32) (c_o_row : Nat → Int32) (c_o_count : Nat → Int32) (z : ((Nat → Int32) × (Nat → Int32))), M_Journal_replay_L2 F t_N t_puts t_who t_number t_size n y2 c_o_row c_o_count = some z →
      (∀ (H : Heap) (locs : List Loc) (ls : Array Slot), va_P D vwCl [(t, .inr (3, [.ref t_puts_a, .ref t_who_a, .ref t_number_a, .int t_size])), (t_puts_a, .inl (cZ, t_N, .inl t_puts)), (t_who_a, .inl (cI, t_N, .inl t_who)), (t_number_a, .inl (cI, t_N, .inl t_number)), (o, .inr (1, [.ref o_row_a, .ref o_count_a])), (o_row_a, .inl (cI, 1440, .inl z.1)), (o_count_a, .inl (cI, 10, .inl z.2))] H → va_D A [(t, .inr (3, [.ref t_puts_a, .ref t_who_a, .ref t_number_a, .int t_size])), (t_puts_a, .inl (cZ, t_N, .inl t_puts)), (t_who_a, .inl (cI, t_N, .inl t_who)), (t_number_a, .inl (cI, t_N, .inl t_number)), (o, .inr (1, [.ref o_row_a, .ref o_count_a])), (o_row_a, .inl (cI, 1440, .inl z.1)), (o_count_a, .inl (cI, 10, .inl z.2))] → va_S A s.heap H locs → lv_has ls 3 [] → W p l e { frames := 2, cells := 0, slots := 0, locals := 44 } s m args below meth c H locs 0 0 Q (F0 m 60 ls [])) →
      ∀ (H : Heap) (locs : List Loc) (ls : Array Slot), va_P D vwCl [(t, .inr (3, [.ref t_puts_a, .ref t_who_a, .ref t_number_a, .int t_size])), (t_puts_a, .inl (cZ, t_N, .inl t_puts)), (t_who_a, .inl (cI, t_N, .inl t_who)), (t_number_a, .inl (cI, t_N, .inl t_number)), (o, .inr (1, [.ref o_row_a, .ref o_count_a])), (o_row_a, .inl (cI, 1440, .inl c_o_row)), (o_count_a, .inl (cI, 10, .inl c_o_count))] H → va_D A [(t, .inr (3, [.ref t_puts_a, .ref t_who_a, .ref t_number_a, .int t_size])), (t_puts_a, .inl (cZ, t_N, .inl t_puts)), (t_who_a, .inl (cI, t_N, .inl t_who)), (t_number_a, .inl (cI, t_N, .inl t_number)), (o, .inr (1, [.ref o_row_a, .ref o_count_a])), (o_row_a, .inl (cI, 1440, .inl c_o_row)), (o_count_a, .inl (cI, 10, .inl c_o_count))] → va_S A s.heap H locs → lv_has ls 3 [(2, .int y2), (0, .ref t), (1, .ref o)] → W p l e { frames := 2, cells := 0, slots := 0, locals := 44 } s m args below meth c H locs 0 0 Q (F0 m 2 ls []) := by
    intro  n
    induction n with
    | zero => intro y2 c_o_row c_o_count z hm; unfold M_Journal_replay_L2 at hm; cases hm
    | succ n ih =>
      intro y2 c_o_row c_o_count z hm hE H locs ls hP hD hS hl
      unfold M_Journal_replay_L2 at hm
      refine lv_iload_n hx hb dX3_replay_2 rfl (lv_at hl 0 rfl) ?_
      refine lv_aload_n hx hb dX3_replay_3 rfl (lv_at hl 1 rfl) ?_
      refine va_get (D := D) (ci := 3) (v := .int t_size) (C := RX3) (T := TX3) (N := 4) hx hb hts in_X3 hown hK hP 0 rfl rfl 3 (by decide) (hts _ kf_X3_7) (fun _ h9 => h9) rfl dX3_replay_4 ?_
      refine lv_icmp_ge (tgt := 60) hx hb dX3_replay_7 (by decide) (fun hc => ?_) (fun hc => ?_)
      · have hm := if_t hc hm
        cases hm
        exact hE H locs ls hP hD hS (lv_sub hl [] rfl)
      · have hm := if_f hc hm
        refine lv_aload_n hx hb dX3_replay_10 rfl (lv_at hl 1 rfl) ?_
        refine va_get (D := D) (ci := 3) (v := .ref t_puts_a) (C := RX3) (T := TX3) (N := 4) hx hb hts in_X3 hown hK hP 0 rfl rfl 0 (by decide) (hts _ kf_X3_13) (fun _ h9 => h9) rfl dX3_replay_11 ?_
        refine lv_iload_n hx hb dX3_replay_14 rfl (lv_at hl 0 rfl) ?_
        refine va_zald hx hb hK hP 1 2 rfl rfl (gd_in hm) dX3_replay_15 ?_
        have hm := gd_go hm
        refine lv_if_eq (tgt := 38) hx hb dX3_replay_16 (by decide) (fun hc => ?_) (fun hc => ?_)
        · have hm := if_t hc hm
          refine lv_aload_n hx hb dX3_replay_38 rfl (lv_at hl 2 rfl) ?_
          refine lv_aload_n hx hb dX3_replay_39 rfl (lv_at hl 1 rfl) ?_
          refine va_get (D := D) (ci := 3) (v := .ref t_who_a) (C := RX3) (T := TX3) (N := 4) hx hb hts in_X3 hown hK hP 0 rfl rfl 1 (by decide) (hts _ kf_X3_17) (fun _ h9 => h9) rfl dX3_replay_40 ?_
          refine lv_iload_n hx hb dX3_replay_43 rfl (lv_at hl 0 rfl) ?_
          refine va_iald hx hb hK hP 2 1 rfl rfl (gd_in hm) dX3_replay_44 ?_
          have hm := gd_go hm
          refine lv_aload_n hx hb dX3_replay_45 rfl (lv_at hl 1 rfl) ?_
          refine va_get (D := D) (ci := 3) (v := .ref t_number_a) (C := RX3) (T := TX3) (N := 4) hx hb hts in_X3 hown hK hP 0 rfl rfl 2 (by decide) (hts _ kf_X3_21) (fun _ h9 => h9) rfl dX3_replay_46 ?_
          refine lv_iload_n hx hb dX3_replay_49 rfl (lv_at hl 0 rfl) ?_
          refine va_iald hx hb hK hP 3 1 rfl rfl (gd_in hm) dX3_replay_50 ?_
          have hm := gd_go hm
          obtain ⟨z1, hz1, hm⟩ := bd_at hm
          refine k_callV (As := [.int (t_who y2.toNatClampNeg), .int (t_number y2.toNatClampNeg)]) (rest := []) (wr := [(t, .inr (3, [.ref t_puts_a, .ref t_who_a, .ref t_number_a, .int t_size])), (t_puts_a, .inl (cZ, t_N, .inl t_puts)), (t_who_a, .inl (cI, t_N, .inl t_who)), (t_number_a, .inl (cI, t_N, .inl t_number))]) (ws1 := [(t, .inr (3, [.ref t_puts_a, .ref t_who_a, .ref t_number_a, .int t_size])), (t_puts_a, .inl (cZ, t_N, .inl t_puts)), (t_who_a, .inl (cI, t_N, .inl t_who)), (t_number_a, .inl (cI, t_N, .inl t_number)), (o, .inr (1, [.ref o_row_a, .ref o_count_a])), (o_row_a, .inl (cI, 1440, .inl z1.1)), (o_count_a, .inl (cI, 10, .inl z1.2))]) [4, 5, 6] [0, 1, 2, 3] [0, 1, 2, 3, 4, 5, 6] (K_FactSet_drop l D cB cI cZ cJ o o_row_a o_count_a c_o_row c_o_count (t_who y2.toNatClampNeg) (t_number y2.toNatClampNeg) z1 hz1) mf_X1_drop km_X3_42 hx hb hml hown hts hK hP hD hS hA hl.1 ⟨Nat.zero_le _, Nat.zero_le _⟩ dX3_replay_51 rfl rfl (Nat.le_of_ble_eq_true rfl) ⟨⟨rfl, rfl⟩, Nat.le_of_ble_eq_true rfl, Nat.le_of_ble_eq_true rfl⟩ rfl rfl (by decide) rfl rfl rfl rfl (fun H locs hP hD hS => ?_)
          have hP : va_P D vwCl [(t, .inr (3, [.ref t_puts_a, .ref t_who_a, .ref t_number_a, .int t_size])), (t_puts_a, .inl (cZ, t_N, .inl t_puts)), (t_who_a, .inl (cI, t_N, .inl t_who)), (t_number_a, .inl (cI, t_N, .inl t_number)), (o, .inr (1, [.ref o_row_a, .ref o_count_a])), (o_row_a, .inl (cI, 1440, .inl z1.1)), (o_count_a, .inl (cI, 10, .inl z1.2))] H := hP
          have hD : va_D A [(t, .inr (3, [.ref t_puts_a, .ref t_who_a, .ref t_number_a, .int t_size])), (t_puts_a, .inl (cZ, t_N, .inl t_puts)), (t_who_a, .inl (cI, t_N, .inl t_who)), (t_number_a, .inl (cI, t_N, .inl t_number)), (o, .inr (1, [.ref o_row_a, .ref o_count_a])), (o_row_a, .inl (cI, 1440, .inl z1.1)), (o_count_a, .inl (cI, 10, .inl z1.2))] := hD
          obtain ⟨v2, ev2⟩ : ∃ y : Int32, y = y2 + (1 : Int32) := ⟨_, rfl⟩
          have hm := lt_at ev2 hm
          refine lv_iinc (v := v2) (lv' := [(2, .int v2), (0, .ref t), (1, .ref o)]) hx hb dX3_replay_54 hl (k := 0) rfl (by rw [ev2]; rfl) (by decide) rfl (fun ls hl => ?_)
          refine lv_goto (tgt := 2) hx hb dX3_replay_57 (by decide) ?_
          exact ih v2 z1.1 z1.2 z hm hE H locs ls hP hD hS (lv_sub hl [0, 1, 2] rfl)
        · have hm := if_f hc hm
          refine lv_aload_n hx hb dX3_replay_19 rfl (lv_at hl 2 rfl) ?_
          refine lv_aload_n hx hb dX3_replay_20 rfl (lv_at hl 1 rfl) ?_
          refine va_get (D := D) (ci := 3) (v := .ref t_who_a) (C := RX3) (T := TX3) (N := 4) hx hb hts in_X3 hown hK hP 0 rfl rfl 1 (by decide) (hts _ kf_X3_17) (fun _ h9 => h9) rfl dX3_replay_21 ?_
          refine lv_iload_n hx hb dX3_replay_24 rfl (lv_at hl 0 rfl) ?_
          refine va_iald hx hb hK hP 2 1 rfl rfl (gd_in hm) dX3_replay_25 ?_
          have hm := gd_go hm
          refine lv_aload_n hx hb dX3_replay_26 rfl (lv_at hl 1 rfl) ?_
          refine va_get (D := D) (ci := 3) (v := .ref t_number_a) (C := RX3) (T := TX3) (N := 4) hx hb hts in_X3 hown hK hP 0 rfl rfl 2 (by decide) (hts _ kf_X3_21) (fun _ h9 => h9) rfl dX3_replay_27 ?_
          refine lv_iload_n hx hb dX3_replay_30 rfl (lv_at hl 0 rfl) ?_
          refine va_iald hx hb hK hP 3 1 rfl rfl (gd_in hm) dX3_replay_31 ?_
          have hm := gd_go hm
          obtain ⟨z3, hz3, hm⟩ := bd_at hm
          refine k_callV (As := [.int (t_who y2.toNatClampNeg), .int (t_number y2.toNatClampNeg)]) (rest := []) (wr := [(t, .inr (3, [.ref t_puts_a, .ref t_who_a, .ref t_number_a, .int t_size])), (t_puts_a, .inl (cZ, t_N, .inl t_puts)), (t_who_a, .inl (cI, t_N, .inl t_who)), (t_number_a, .inl (cI, t_N, .inl t_number))]) (ws1 := [(t, .inr (3, [.ref t_puts_a, .ref t_who_a, .ref t_number_a, .int t_size])), (t_puts_a, .inl (cZ, t_N, .inl t_puts)), (t_who_a, .inl (cI, t_N, .inl t_who)), (t_number_a, .inl (cI, t_N, .inl t_number)), (o, .inr (1, [.ref o_row_a, .ref o_count_a])), (o_row_a, .inl (cI, 1440, .inl z3.1)), (o_count_a, .inl (cI, 10, .inl z3.2))]) [4, 5, 6] [0, 1, 2, 3] [0, 1, 2, 3, 4, 5, 6] (K_FactSet_add l D cB cI cZ cJ o o_row_a o_count_a c_o_row c_o_count (t_who y2.toNatClampNeg) (t_number y2.toNatClampNeg) z3 hz3) mf_X1_add km_X3_37 hx hb hml hown hts hK hP hD hS hA hl.1 ⟨Nat.zero_le _, Nat.zero_le _⟩ dX3_replay_32 rfl rfl (Nat.le_of_ble_eq_true rfl) ⟨⟨rfl, rfl⟩, Nat.le_of_ble_eq_true rfl, Nat.le_of_ble_eq_true rfl⟩ rfl rfl (by decide) rfl rfl rfl rfl (fun H locs hP hD hS => ?_)
          have hP : va_P D vwCl [(t, .inr (3, [.ref t_puts_a, .ref t_who_a, .ref t_number_a, .int t_size])), (t_puts_a, .inl (cZ, t_N, .inl t_puts)), (t_who_a, .inl (cI, t_N, .inl t_who)), (t_number_a, .inl (cI, t_N, .inl t_number)), (o, .inr (1, [.ref o_row_a, .ref o_count_a])), (o_row_a, .inl (cI, 1440, .inl z3.1)), (o_count_a, .inl (cI, 10, .inl z3.2))] H := hP
          have hD : va_D A [(t, .inr (3, [.ref t_puts_a, .ref t_who_a, .ref t_number_a, .int t_size])), (t_puts_a, .inl (cZ, t_N, .inl t_puts)), (t_who_a, .inl (cI, t_N, .inl t_who)), (t_number_a, .inl (cI, t_N, .inl t_number)), (o, .inr (1, [.ref o_row_a, .ref o_count_a])), (o_row_a, .inl (cI, 1440, .inl z3.1)), (o_count_a, .inl (cI, 10, .inl z3.2))] := hD
          refine lv_goto (tgt := 54) hx hb dX3_replay_35 (by decide) ?_
          obtain ⟨v4, ev4⟩ : ∃ y : Int32, y = y2 + (1 : Int32) := ⟨_, rfl⟩
          have hm := lt_at ev4 hm
          refine lv_iinc (v := v4) (lv' := [(2, .int v4), (0, .ref t), (1, .ref o)]) hx hb dX3_replay_54 hl (k := 0) rfl (by rw [ev4]; rfl) (by decide) rfl (fun ls hl => ?_)
          refine lv_goto (tgt := 2) hx hb dX3_replay_57 (by decide) ?_
          exact ih v4 z3.1 z3.2 z hm hE H locs ls hP hD hS (lv_sub hl [0, 1, 2] rfl)
  unfold M_Journal_replay at hm
  obtain ⟨H, eH⟩ : ∃ H, H = s.heap := ⟨_, rfl⟩
  obtain ⟨locs, el⟩ : ∃ x : List Loc, x = [] := ⟨_, rfl⟩
  have hP : va_P D vwCl [(t, .inr (3, [.ref t_puts_a, .ref t_who_a, .ref t_number_a, .int t_size])), (t_puts_a, .inl (cZ, t_N, .inl t_puts)), (t_who_a, .inl (cI, t_N, .inl t_who)), (t_number_a, .inl (cI, t_N, .inl t_number)), (o, .inr (1, [.ref o_row_a, .ref o_count_a])), (o_row_a, .inl (cI, 1440, .inl o_row)), (o_count_a, .inl (cI, 10, .inl o_count))] H := eH ▸ hP
  have hS : va_S A s.heap H locs := by rw [eH, el]; exact hS
  suffices hW : W p l e { frames := 2, cells := 0, slots := 0, locals := 44 } s m args below meth c H locs 0 0 Q (F0 m 0 ls []) by rw [eH, el] at hW; exact hW
  clear eH el
  refine lv_iconst (v := (0 : Int32)) hx hb dX3_replay_0 (by decide) ?_
  refine lv_istore_n (lv' := [(2, .int (0 : Int32)), (0, .ref t), (1, .ref o)]) hx hb dX3_replay_1 rfl hl (by decide) rfl (fun ls hl => ?_)
  obtain ⟨z5, hz5, hm⟩ := bd_at hm
  refine L2  F (0 : Int32) o_row o_count z5 hz5 (fun H locs ls hP hD hS hl => ?_) H locs ls hP hD hS (lv_sub hl [0, 1, 2] rfl)
  have ho := Option.some.inj hm
  exact k_vret hx hb hr hlocks hK hP hD hS dX3_replay_60 hQ rfl (by rw [← ho])
