theorem kf_X4_13 : Cond.fieldLink RX4 13 "RuleHall$Program" "kind" "[I" ∈ kT := k_in 163 (by decide +kernel)
theorem kf_X4_17 : Cond.fieldLink RX4 17 "RuleHall$Program" "place" "[I" ∈ kT := k_in 167 (by decide +kernel)
theorem kf_X4_20 : Cond.fieldLink RX4 20 "RuleHall$Program" "who" "[I" ∈ kT := k_in 169 (by decide +kernel)
theorem kf_X4_23 : Cond.fieldLink RX4 23 "RuleHall$Program" "width" "[I" ∈ kT := k_in 173 (by decide +kernel)
theorem kf_X4_26 : Cond.fieldLink RX4 26 "RuleHall$Program" "term" "[I" ∈ kT := k_in 176 (by decide +kernel)
theorem kf_X4_29 : Cond.fieldLink RX4 29 "RuleHall$Program" "start" "[I" ∈ kT := k_in 178 (by decide +kernel)
theorem kf_X4_32 : Cond.fieldLink RX4 32 "RuleHall$Program" "size" "I" ∈ kT := k_in 182 (by decide +kernel)
theorem kf_X4_36 : Cond.fieldLink RX4 36 "RuleHall$Program" "rules" "I" ∈ kT := k_in 183 (by decide +kernel)
theorem kf_X4_39 : Cond.fieldLink RX4 39 "RuleHall$Program" "sort" "[I" ∈ kT := k_in 187 (by decide +kernel)
theorem kf_X4_42 : Cond.fieldLink RX4 42 "RuleHall$Program" "arity" "[I" ∈ kT := k_in 189 (by decide +kernel)
theorem kf_X4_45 : Cond.fieldLink RX4 45 "RuleHall$Program" "stratum" "[I" ∈ kT := k_in 192 (by decide +kernel)
theorem kf_X4_48 : Cond.fieldLink RX4 48 "RuleHall$Program" "reach" "[I" ∈ kT := k_in 195 (by decide +kernel)
theorem km_X4_51 : Cond.methodLink RX4 51 yX4_isAtom ∈ kT := k_in 705 (by decide +kernel)
theorem km_X4_55 : Cond.methodLink RX4 55 yX4_describeAtom ∈ kT := k_in 709 (by decide +kernel)
theorem km_X4_59 : Cond.methodLink RX4 59 yX4_closeReach ∈ kT := k_in 713 (by decide +kernel)
theorem km_X4_62 : Cond.methodLink RX4 62 yX4_raiseHead ∈ kT := k_in 808 (by decide +kernel)
theorem km_X4_65 : Cond.methodLink RX4 65 Lib.Math.max.name ∈ kT := k_in 812 (by decide +kernel)
theorem km_X4_71 : Cond.methodLink RX4 71 yX4_sortOf ∈ kT := k_in 387 (by decide +kernel)
theorem km_X4_75 : Cond.methodLink RX4 75 yX4_isConstant ∈ kT := k_in 391 (by decide +kernel)
theorem mf_X4_closeReach : MF yX4_closeReach cX4_closeReach 4 none 0 := ⟨k_in 715 (by decide +kernel), k_in 29 (by decide +kernel), k_in 75 (by decide +kernel), k_in 716 (by decide +kernel), ⟨by decide +kernel, by decide +kernel, by decide +kernel⟩⟩
theorem mf_X4_describeAtom : MF yX4_describeAtom cX4_describeAtom 3 none 1 := ⟨k_in 711 (by decide +kernel), k_in 28 (by decide +kernel), k_in 75 (by decide +kernel), k_in 712 (by decide +kernel), ⟨by decide +kernel, by decide +kernel, by decide +kernel⟩⟩
theorem mf_X4_isAtom : MF yX4_isAtom cX4_isAtom 2 (some .boolean) 1 := ⟨k_in 706 (by decide +kernel), k_in 707 (by decide +kernel), k_in 75 (by decide +kernel), k_in 708 (by decide +kernel), ⟨by decide +kernel, by decide +kernel, by decide +kernel⟩⟩
theorem ms_X4_isConstant : MS yX4_isConstant cX4_isConstant 1 (some .boolean) 1 := ⟨k_in 392 (by decide +kernel), k_in 75 (by decide +kernel), k_in 393 (by decide +kernel), ⟨by decide +kernel, by decide +kernel, by decide +kernel⟩⟩
theorem mf_X4_raiseHead : MF yX4_raiseHead cX4_raiseHead 5 none 1 := ⟨k_in 810 (by decide +kernel), k_in 32 (by decide +kernel), k_in 75 (by decide +kernel), k_in 811 (by decide +kernel), ⟨by decide +kernel, by decide +kernel, by decide +kernel⟩⟩
theorem mf_X4_sortOf : MF yX4_sortOf cX4_sortOf 2 (some .int) 1 := ⟨k_in 388 (by decide +kernel), k_in 389 (by decide +kernel), k_in 75 (by decide +kernel), k_in 390 (by decide +kernel), ⟨by decide +kernel, by decide +kernel, by decide +kernel⟩⟩
noncomputable def M_Program_clear (t_size : Int32) (t_rules : Int32) : Option ((Int32) × (Int32)) := some ((0 : Int32), (0 : Int32))
set_option maxRecDepth 100000 in
set_option maxHeartbeats 4000000 in
theorem K_Program_clear (l : Launch) (D : va_G) (cB cI cZ cJ : ClassId) (t : Nat) (t_kind_a : Nat) (t_place_a : Nat) (t_who_a : Nat) (t_width_a : Nat) (t_term_a : Nat) (t_start_a : Nat) (t_sort_a : Nat) (t_arity_a : Nat) (t_stratum_a : Nat) (t_reach_a : Nat) (t_size : Int32) (t_rules : Int32) (out : (Int32) × (Int32)) (hm : M_Program_clear t_size t_rules = some out) : KC l yX4_clear cX4_clear 1 none { frames := 0, cells := 0, slots := 0, locals := 0 } D (kTy cB cI cZ cJ) [.ref t] [(t, .inr (4, [.ref t_kind_a, .ref t_place_a, .ref t_who_a, .ref t_width_a, .ref t_term_a, .ref t_start_a, .int t_size, .int t_rules, .ref t_sort_a, .ref t_arity_a, .ref t_stratum_a, .ref t_reach_a]))] none [(t, .inr (4, [.ref t_kind_a, .ref t_place_a, .ref t_who_a, .ref t_width_a, .ref t_term_a, .ref t_start_a, .int out.1, .int out.2, .ref t_sort_a, .ref t_arity_a, .ref t_stratum_a, .ref t_reach_a]))] := by
  refine KC.of (by decide +kernel) (Nat.le_of_ble_eq_true rfl) ?_
  intro p e s m below meth c A ls args Q hQ CX hA hK hP hD hl
  obtain ⟨hx, hb, hr, hml, hown, hts, hlocks⟩ := CX
  have hown : s.vm.findClass RX4 = some m.cls := hown
  have hS : va_S A s.heap s.heap [] := va_S.rf
  have hl : lv_has ls 1 [(0, .ref t)] := hl
  unfold M_Program_clear at hm
  obtain ⟨H, eH⟩ : ∃ H, H = s.heap := ⟨_, rfl⟩
  obtain ⟨locs, el⟩ : ∃ x : List Loc, x = [] := ⟨_, rfl⟩
  have hP : va_P D vwCl [(t, .inr (4, [.ref t_kind_a, .ref t_place_a, .ref t_who_a, .ref t_width_a, .ref t_term_a, .ref t_start_a, .int t_size, .int t_rules, .ref t_sort_a, .ref t_arity_a, .ref t_stratum_a, .ref t_reach_a]))] H := eH ▸ hP
  have hS : va_S A s.heap H locs := by rw [eH, el]; exact hS
  suffices hW : W p l e { frames := 0, cells := 0, slots := 0, locals := 0 } s m args below meth c H locs 0 0 Q (F0 m 0 ls []) by rw [eH, el] at hW; exact hW
  clear eH el
  refine lv_aload_n hx hb dX4_clear_0 rfl (lv_at hl 0 rfl) ?_
  refine lv_iconst (v := (0 : Int32)) hx hb dX4_clear_1 (by decide) ?_
  refine va_put (D := D) (ci := 4) (v := .int (0 : Int32)) (ty := .int) (C := RX4) (T := TX4) (N := 12) hx hb hts in_X4 tyX4 tyX4_ok nmX4 hown hK hP hD hS 0 rfl rfl 6 (by decide) (hts _ kf_X4_32) (fun _ h9 => h9) rfl (by decide +kernel) rfl rfl (Nat.le_of_ble_eq_true rfl) dX4_clear_2 (fun H locs hP hD hS => ?_)
  have hP : va_P D vwCl [(t, .inr (4, [.ref t_kind_a, .ref t_place_a, .ref t_who_a, .ref t_width_a, .ref t_term_a, .ref t_start_a, .int (0 : Int32), .int t_rules, .ref t_sort_a, .ref t_arity_a, .ref t_stratum_a, .ref t_reach_a]))] H := hP
  have hD : va_D A [(t, .inr (4, [.ref t_kind_a, .ref t_place_a, .ref t_who_a, .ref t_width_a, .ref t_term_a, .ref t_start_a, .int (0 : Int32), .int t_rules, .ref t_sort_a, .ref t_arity_a, .ref t_stratum_a, .ref t_reach_a]))] := hD
  refine lv_aload_n hx hb dX4_clear_5 rfl (lv_at hl 0 rfl) ?_
  refine lv_iconst (v := (0 : Int32)) hx hb dX4_clear_6 (by decide) ?_
  refine va_put (D := D) (ci := 4) (v := .int (0 : Int32)) (ty := .int) (C := RX4) (T := TX4) (N := 12) hx hb hts in_X4 tyX4 tyX4_ok nmX4 hown hK hP hD hS 0 rfl rfl 7 (by decide) (hts _ kf_X4_36) (fun _ h9 => h9) rfl (by decide +kernel) rfl rfl (Nat.le_of_ble_eq_true rfl) dX4_clear_7 (fun H locs hP hD hS => ?_)
  have hP : va_P D vwCl [(t, .inr (4, [.ref t_kind_a, .ref t_place_a, .ref t_who_a, .ref t_width_a, .ref t_term_a, .ref t_start_a, .int (0 : Int32), .int (0 : Int32), .ref t_sort_a, .ref t_arity_a, .ref t_stratum_a, .ref t_reach_a]))] H := hP
  have hD : va_D A [(t, .inr (4, [.ref t_kind_a, .ref t_place_a, .ref t_who_a, .ref t_width_a, .ref t_term_a, .ref t_start_a, .int (0 : Int32), .int (0 : Int32), .ref t_sort_a, .ref t_arity_a, .ref t_stratum_a, .ref t_reach_a]))] := hD
  have ho := Option.some.inj hm
  exact k_vret hx hb hr hlocks hK hP hD hS dX4_clear_10 hQ rfl (by rw [← ho])
noncomputable def M_Program_addEntry (t_kind : Nat → Int32) (t_place : Nat → Int32) (t_who : Nat → Int32) (t_width : Nat → Int32) (t_start : Nat → Int32) (t_size : Int32) (t_rules : Int32) (x0 : Int32) (x1 : Int32) (x2 : Int32) : Option ((Nat → Int32) × (Nat → Int32) × (Nat → Int32) × (Nat → Int32) × (Nat → Int32) × (Int32) × (Int32)) := if t_size < (240 : Int32) then (gd_ t_size 240 <| lt_ (upd t_kind t_size.toNatClampNeg x0) fun f1 => gd_ t_size 240 <| lt_ (upd t_who t_size.toNatClampNeg x1) fun f2 => gd_ t_size 240 <| lt_ (upd t_place t_size.toNatClampNeg x2) fun f3 => gd_ t_size 240 <| lt_ (upd t_width t_size.toNatClampNeg (0 : Int32)) fun f4 => if x0 = 0 then (lt_ ((t_rules + (1 : Int32))) fun v7 => lt_ ((t_size + (1 : Int32))) fun v8 => gd_ v7 241 <| lt_ (upd t_start v7.toNatClampNeg v8) fun f9 => some (f1, f3, f2, f4, f9, v8, v7)) else (lt_ ((t_size + (1 : Int32))) fun v5 => gd_ t_rules 241 <| lt_ (upd t_start t_rules.toNatClampNeg v5) fun f6 => some (f1, f3, f2, f4, f6, v5, t_rules))) else (some (t_kind, t_place, t_who, t_width, t_start, t_size, t_rules))
set_option maxRecDepth 100000 in
set_option maxHeartbeats 4000000 in
theorem K_Program_addEntry (l : Launch) (D : va_G) (cB cI cZ cJ : ClassId) (t : Nat) (t_kind_a : Nat) (t_place_a : Nat) (t_who_a : Nat) (t_width_a : Nat) (t_term_a : Nat) (t_start_a : Nat) (t_sort_a : Nat) (t_arity_a : Nat) (t_stratum_a : Nat) (t_reach_a : Nat) (t_size : Int32) (t_rules : Int32) (t_kind : Nat → Int32) (t_place : Nat → Int32) (t_who : Nat → Int32) (t_width : Nat → Int32) (t_start : Nat → Int32) (x0 : Int32) (x1 : Int32) (x2 : Int32) (out : (Nat → Int32) × (Nat → Int32) × (Nat → Int32) × (Nat → Int32) × (Nat → Int32) × (Int32) × (Int32)) (hm : M_Program_addEntry t_kind t_place t_who t_width t_start t_size t_rules x0 x1 x2 = some out) : KC l yX4_addEntry cX4_addEntry 4 none { frames := 0, cells := 0, slots := 0, locals := 0 } D (kTy cB cI cZ cJ) [.ref t, .int x0, .int x1, .int x2] [(t, .inr (4, [.ref t_kind_a, .ref t_place_a, .ref t_who_a, .ref t_width_a, .ref t_term_a, .ref t_start_a, .int t_size, .int t_rules, .ref t_sort_a, .ref t_arity_a, .ref t_stratum_a, .ref t_reach_a])), (t_kind_a, .inl (cI, 240, .inl t_kind)), (t_place_a, .inl (cI, 240, .inl t_place)), (t_who_a, .inl (cI, 240, .inl t_who)), (t_width_a, .inl (cI, 240, .inl t_width)), (t_start_a, .inl (cI, 241, .inl t_start))] none [(t, .inr (4, [.ref t_kind_a, .ref t_place_a, .ref t_who_a, .ref t_width_a, .ref t_term_a, .ref t_start_a, .int out.2.2.2.2.2.1, .int out.2.2.2.2.2.2, .ref t_sort_a, .ref t_arity_a, .ref t_stratum_a, .ref t_reach_a])), (t_kind_a, .inl (cI, 240, .inl out.1)), (t_place_a, .inl (cI, 240, .inl out.2.1)), (t_who_a, .inl (cI, 240, .inl out.2.2.1)), (t_width_a, .inl (cI, 240, .inl out.2.2.2.1)), (t_start_a, .inl (cI, 241, .inl out.2.2.2.2.1))] := by
  refine KC.of (by decide +kernel) (Nat.le_of_ble_eq_true rfl) ?_
  intro p e s m below meth c A ls args Q hQ CX hA hK hP hD hl
  obtain ⟨hx, hb, hr, hml, hown, hts, hlocks⟩ := CX
  have hown : s.vm.findClass RX4 = some m.cls := hown
  have hS : va_S A s.heap s.heap [] := va_S.rf
  have hl : lv_has ls 4 [(0, .ref t), (1, .int x0), (2, .int x1), (3, .int x2)] := hl
  unfold M_Program_addEntry at hm
  obtain ⟨H, eH⟩ : ∃ H, H = s.heap := ⟨_, rfl⟩
  obtain ⟨locs, el⟩ : ∃ x : List Loc, x = [] := ⟨_, rfl⟩
  have hP : va_P D vwCl [(t, .inr (4, [.ref t_kind_a, .ref t_place_a, .ref t_who_a, .ref t_width_a, .ref t_term_a, .ref t_start_a, .int t_size, .int t_rules, .ref t_sort_a, .ref t_arity_a, .ref t_stratum_a, .ref t_reach_a])), (t_kind_a, .inl (cI, 240, .inl t_kind)), (t_place_a, .inl (cI, 240, .inl t_place)), (t_who_a, .inl (cI, 240, .inl t_who)), (t_width_a, .inl (cI, 240, .inl t_width)), (t_start_a, .inl (cI, 241, .inl t_start))] H := eH ▸ hP
  have hS : va_S A s.heap H locs := by rw [eH, el]; exact hS
  suffices hW : W p l e { frames := 0, cells := 0, slots := 0, locals := 0 } s m args below meth c H locs 0 0 Q (F0 m 0 ls []) by rw [eH, el] at hW; exact hW
  clear eH el
  refine lv_aload_n hx hb dX4_addEntry_0 rfl (lv_at hl 0 rfl) ?_
  refine va_get (D := D) (ci := 4) (v := .int t_size) (C := RX4) (T := TX4) (N := 12) hx hb hts in_X4 hown hK hP 0 rfl rfl 6 (by decide) (hts _ kf_X4_32) (fun _ h9 => h9) rfl dX4_addEntry_1 ?_
  refine lv_sipush (v := (240 : Int32)) hx hb dX4_addEntry_4 (by decide) ?_
  refine lv_icmp_lt (tgt := 11) hx hb dX4_addEntry_7 (by decide) (fun hc => ?_) (fun hc => ?_)
  · have hm := if_t hc hm
    refine lv_aload_n hx hb dX4_addEntry_11 rfl (lv_at hl 0 rfl) ?_
    refine va_get (D := D) (ci := 4) (v := .ref t_kind_a) (C := RX4) (T := TX4) (N := 12) hx hb hts in_X4 hown hK hP 0 rfl rfl 0 (by decide) (hts _ kf_X4_13) (fun _ h9 => h9) rfl dX4_addEntry_12 ?_
    refine lv_aload_n hx hb dX4_addEntry_15 rfl (lv_at hl 0 rfl) ?_
    refine va_get (D := D) (ci := 4) (v := .int t_size) (C := RX4) (T := TX4) (N := 12) hx hb hts in_X4 hown hK hP 0 rfl rfl 6 (by decide) (hts _ kf_X4_32) (fun _ h9 => h9) rfl dX4_addEntry_16 ?_
    refine lv_iload_n hx hb dX4_addEntry_19 rfl (lv_at hl 1 rfl) ?_
    refine k_iast hx hb hK hP hD hS 1 1 rfl rfl (gd_in hm) dX4_addEntry_20 (fun f1 ef1 H locs hP hD hS => ?_)
    have hm := lt_at ef1 (gd_go hm)
    have hP : va_P D vwCl [(t, .inr (4, [.ref t_kind_a, .ref t_place_a, .ref t_who_a, .ref t_width_a, .ref t_term_a, .ref t_start_a, .int t_size, .int t_rules, .ref t_sort_a, .ref t_arity_a, .ref t_stratum_a, .ref t_reach_a])), (t_kind_a, .inl (cI, 240, .inl f1)), (t_place_a, .inl (cI, 240, .inl t_place)), (t_who_a, .inl (cI, 240, .inl t_who)), (t_width_a, .inl (cI, 240, .inl t_width)), (t_start_a, .inl (cI, 241, .inl t_start))] H := hP
    have hD : va_D A [(t, .inr (4, [.ref t_kind_a, .ref t_place_a, .ref t_who_a, .ref t_width_a, .ref t_term_a, .ref t_start_a, .int t_size, .int t_rules, .ref t_sort_a, .ref t_arity_a, .ref t_stratum_a, .ref t_reach_a])), (t_kind_a, .inl (cI, 240, .inl f1)), (t_place_a, .inl (cI, 240, .inl t_place)), (t_who_a, .inl (cI, 240, .inl t_who)), (t_width_a, .inl (cI, 240, .inl t_width)), (t_start_a, .inl (cI, 241, .inl t_start))] := hD
    refine lv_aload_n hx hb dX4_addEntry_21 rfl (lv_at hl 0 rfl) ?_
    refine va_get (D := D) (ci := 4) (v := .ref t_who_a) (C := RX4) (T := TX4) (N := 12) hx hb hts in_X4 hown hK hP 0 rfl rfl 2 (by decide) (hts _ kf_X4_20) (fun _ h9 => h9) rfl dX4_addEntry_22 ?_
    refine lv_aload_n hx hb dX4_addEntry_25 rfl (lv_at hl 0 rfl) ?_
    refine va_get (D := D) (ci := 4) (v := .int t_size) (C := RX4) (T := TX4) (N := 12) hx hb hts in_X4 hown hK hP 0 rfl rfl 6 (by decide) (hts _ kf_X4_32) (fun _ h9 => h9) rfl dX4_addEntry_26 ?_
    refine lv_iload_n hx hb dX4_addEntry_29 rfl (lv_at hl 2 rfl) ?_
    refine k_iast hx hb hK hP hD hS 3 1 rfl rfl (gd_in hm) dX4_addEntry_30 (fun f2 ef2 H locs hP hD hS => ?_)
    have hm := lt_at ef2 (gd_go hm)
    have hP : va_P D vwCl [(t, .inr (4, [.ref t_kind_a, .ref t_place_a, .ref t_who_a, .ref t_width_a, .ref t_term_a, .ref t_start_a, .int t_size, .int t_rules, .ref t_sort_a, .ref t_arity_a, .ref t_stratum_a, .ref t_reach_a])), (t_kind_a, .inl (cI, 240, .inl f1)), (t_place_a, .inl (cI, 240, .inl t_place)), (t_who_a, .inl (cI, 240, .inl f2)), (t_width_a, .inl (cI, 240, .inl t_width)), (t_start_a, .inl (cI, 241, .inl t_start))] H := hP
    have hD : va_D A [(t, .inr (4, [.ref t_kind_a, .ref t_place_a, .ref t_who_a, .ref t_width_a, .ref t_term_a, .ref t_start_a, .int t_size, .int t_rules, .ref t_sort_a, .ref t_arity_a, .ref t_stratum_a, .ref t_reach_a])), (t_kind_a, .inl (cI, 240, .inl f1)), (t_place_a, .inl (cI, 240, .inl t_place)), (t_who_a, .inl (cI, 240, .inl f2)), (t_width_a, .inl (cI, 240, .inl t_width)), (t_start_a, .inl (cI, 241, .inl t_start))] := hD
    refine lv_aload_n hx hb dX4_addEntry_31 rfl (lv_at hl 0 rfl) ?_
    refine va_get (D := D) (ci := 4) (v := .ref t_place_a) (C := RX4) (T := TX4) (N := 12) hx hb hts in_X4 hown hK hP 0 rfl rfl 1 (by decide) (hts _ kf_X4_17) (fun _ h9 => h9) rfl dX4_addEntry_32 ?_
    refine lv_aload_n hx hb dX4_addEntry_35 rfl (lv_at hl 0 rfl) ?_
    refine va_get (D := D) (ci := 4) (v := .int t_size) (C := RX4) (T := TX4) (N := 12) hx hb hts in_X4 hown hK hP 0 rfl rfl 6 (by decide) (hts _ kf_X4_32) (fun _ h9 => h9) rfl dX4_addEntry_36 ?_
    refine lv_iload_n hx hb dX4_addEntry_39 rfl (lv_at hl 3 rfl) ?_
    refine k_iast hx hb hK hP hD hS 2 1 rfl rfl (gd_in hm) dX4_addEntry_40 (fun f3 ef3 H locs hP hD hS => ?_)
    have hm := lt_at ef3 (gd_go hm)
    have hP : va_P D vwCl [(t, .inr (4, [.ref t_kind_a, .ref t_place_a, .ref t_who_a, .ref t_width_a, .ref t_term_a, .ref t_start_a, .int t_size, .int t_rules, .ref t_sort_a, .ref t_arity_a, .ref t_stratum_a, .ref t_reach_a])), (t_kind_a, .inl (cI, 240, .inl f1)), (t_place_a, .inl (cI, 240, .inl f3)), (t_who_a, .inl (cI, 240, .inl f2)), (t_width_a, .inl (cI, 240, .inl t_width)), (t_start_a, .inl (cI, 241, .inl t_start))] H := hP
    have hD : va_D A [(t, .inr (4, [.ref t_kind_a, .ref t_place_a, .ref t_who_a, .ref t_width_a, .ref t_term_a, .ref t_start_a, .int t_size, .int t_rules, .ref t_sort_a, .ref t_arity_a, .ref t_stratum_a, .ref t_reach_a])), (t_kind_a, .inl (cI, 240, .inl f1)), (t_place_a, .inl (cI, 240, .inl f3)), (t_who_a, .inl (cI, 240, .inl f2)), (t_width_a, .inl (cI, 240, .inl t_width)), (t_start_a, .inl (cI, 241, .inl t_start))] := hD
    refine lv_aload_n hx hb dX4_addEntry_41 rfl (lv_at hl 0 rfl) ?_
    refine va_get (D := D) (ci := 4) (v := .ref t_width_a) (C := RX4) (T := TX4) (N := 12) hx hb hts in_X4 hown hK hP 0 rfl rfl 3 (by decide) (hts _ kf_X4_23) (fun _ h9 => h9) rfl dX4_addEntry_42 ?_
    refine lv_aload_n hx hb dX4_addEntry_45 rfl (lv_at hl 0 rfl) ?_
    refine va_get (D := D) (ci := 4) (v := .int t_size) (C := RX4) (T := TX4) (N := 12) hx hb hts in_X4 hown hK hP 0 rfl rfl 6 (by decide) (hts _ kf_X4_32) (fun _ h9 => h9) rfl dX4_addEntry_46 ?_
    refine lv_iconst (v := (0 : Int32)) hx hb dX4_addEntry_49 (by decide) ?_
    refine k_iast hx hb hK hP hD hS 4 1 rfl rfl (gd_in hm) dX4_addEntry_50 (fun f4 ef4 H locs hP hD hS => ?_)
    have hm := lt_at ef4 (gd_go hm)
    have hP : va_P D vwCl [(t, .inr (4, [.ref t_kind_a, .ref t_place_a, .ref t_who_a, .ref t_width_a, .ref t_term_a, .ref t_start_a, .int t_size, .int t_rules, .ref t_sort_a, .ref t_arity_a, .ref t_stratum_a, .ref t_reach_a])), (t_kind_a, .inl (cI, 240, .inl f1)), (t_place_a, .inl (cI, 240, .inl f3)), (t_who_a, .inl (cI, 240, .inl f2)), (t_width_a, .inl (cI, 240, .inl f4)), (t_start_a, .inl (cI, 241, .inl t_start))] H := hP
    have hD : va_D A [(t, .inr (4, [.ref t_kind_a, .ref t_place_a, .ref t_who_a, .ref t_width_a, .ref t_term_a, .ref t_start_a, .int t_size, .int t_rules, .ref t_sort_a, .ref t_arity_a, .ref t_stratum_a, .ref t_reach_a])), (t_kind_a, .inl (cI, 240, .inl f1)), (t_place_a, .inl (cI, 240, .inl f3)), (t_who_a, .inl (cI, 240, .inl f2)), (t_width_a, .inl (cI, 240, .inl f4)), (t_start_a, .inl (cI, 241, .inl t_start))] := hD
    refine lv_iload_n hx hb dX4_addEntry_51 rfl (lv_at hl 1 rfl) ?_
    refine lv_if_ne (tgt := 65) hx hb dX4_addEntry_52 (by decide) (fun hc => ?_) (fun hc => ?_)
    · have hm := if_f hc hm
      refine lv_aload_n hx hb dX4_addEntry_65 rfl (lv_at hl 0 rfl) ?_
      refine lv_dup hx hb dX4_addEntry_66 rfl ?_
      refine va_get (D := D) (ci := 4) (v := .int t_size) (C := RX4) (T := TX4) (N := 12) hx hb hts in_X4 hown hK hP 0 rfl rfl 6 (by decide) (hts _ kf_X4_32) (fun _ h9 => h9) rfl dX4_addEntry_67 ?_
      refine lv_iconst (v := (1 : Int32)) hx hb dX4_addEntry_70 (by decide) ?_
      refine lv_iadd hx hb dX4_addEntry_71 ?_
      refine lv_topi (fun v5 ev5 => ?_)
      have hm := lt_at ev5 hm
      refine va_put (D := D) (ci := 4) (v := .int v5) (ty := .int) (C := RX4) (T := TX4) (N := 12) hx hb hts in_X4 tyX4 tyX4_ok nmX4 hown hK hP hD hS 0 rfl rfl 6 (by decide) (hts _ kf_X4_32) (fun _ h9 => h9) rfl (by decide +kernel) rfl rfl (Nat.le_of_ble_eq_true rfl) dX4_addEntry_72 (fun H locs hP hD hS => ?_)
      have hP : va_P D vwCl [(t, .inr (4, [.ref t_kind_a, .ref t_place_a, .ref t_who_a, .ref t_width_a, .ref t_term_a, .ref t_start_a, .int v5, .int t_rules, .ref t_sort_a, .ref t_arity_a, .ref t_stratum_a, .ref t_reach_a])), (t_kind_a, .inl (cI, 240, .inl f1)), (t_place_a, .inl (cI, 240, .inl f3)), (t_who_a, .inl (cI, 240, .inl f2)), (t_width_a, .inl (cI, 240, .inl f4)), (t_start_a, .inl (cI, 241, .inl t_start))] H := hP
      have hD : va_D A [(t, .inr (4, [.ref t_kind_a, .ref t_place_a, .ref t_who_a, .ref t_width_a, .ref t_term_a, .ref t_start_a, .int v5, .int t_rules, .ref t_sort_a, .ref t_arity_a, .ref t_stratum_a, .ref t_reach_a])), (t_kind_a, .inl (cI, 240, .inl f1)), (t_place_a, .inl (cI, 240, .inl f3)), (t_who_a, .inl (cI, 240, .inl f2)), (t_width_a, .inl (cI, 240, .inl f4)), (t_start_a, .inl (cI, 241, .inl t_start))] := hD
      refine lv_aload_n hx hb dX4_addEntry_75 rfl (lv_at hl 0 rfl) ?_
      refine va_get (D := D) (ci := 4) (v := .ref t_start_a) (C := RX4) (T := TX4) (N := 12) hx hb hts in_X4 hown hK hP 0 rfl rfl 5 (by decide) (hts _ kf_X4_29) (fun _ h9 => h9) rfl dX4_addEntry_76 ?_
      refine lv_aload_n hx hb dX4_addEntry_79 rfl (lv_at hl 0 rfl) ?_
      refine va_get (D := D) (ci := 4) (v := .int t_rules) (C := RX4) (T := TX4) (N := 12) hx hb hts in_X4 hown hK hP 0 rfl rfl 7 (by decide) (hts _ kf_X4_36) (fun _ h9 => h9) rfl dX4_addEntry_80 ?_
      refine lv_aload_n hx hb dX4_addEntry_83 rfl (lv_at hl 0 rfl) ?_
      refine va_get (D := D) (ci := 4) (v := .int v5) (C := RX4) (T := TX4) (N := 12) hx hb hts in_X4 hown hK hP 0 rfl rfl 6 (by decide) (hts _ kf_X4_32) (fun _ h9 => h9) rfl dX4_addEntry_84 ?_
      refine k_iast hx hb hK hP hD hS 5 1 rfl rfl (gd_in hm) dX4_addEntry_87 (fun f6 ef6 H locs hP hD hS => ?_)
      have hm := lt_at ef6 (gd_go hm)
      have hP : va_P D vwCl [(t, .inr (4, [.ref t_kind_a, .ref t_place_a, .ref t_who_a, .ref t_width_a, .ref t_term_a, .ref t_start_a, .int v5, .int t_rules, .ref t_sort_a, .ref t_arity_a, .ref t_stratum_a, .ref t_reach_a])), (t_kind_a, .inl (cI, 240, .inl f1)), (t_place_a, .inl (cI, 240, .inl f3)), (t_who_a, .inl (cI, 240, .inl f2)), (t_width_a, .inl (cI, 240, .inl f4)), (t_start_a, .inl (cI, 241, .inl f6))] H := hP
      have hD : va_D A [(t, .inr (4, [.ref t_kind_a, .ref t_place_a, .ref t_who_a, .ref t_width_a, .ref t_term_a, .ref t_start_a, .int v5, .int t_rules, .ref t_sort_a, .ref t_arity_a, .ref t_stratum_a, .ref t_reach_a])), (t_kind_a, .inl (cI, 240, .inl f1)), (t_place_a, .inl (cI, 240, .inl f3)), (t_who_a, .inl (cI, 240, .inl f2)), (t_width_a, .inl (cI, 240, .inl f4)), (t_start_a, .inl (cI, 241, .inl f6))] := hD
      have ho := Option.some.inj hm
      exact k_vret hx hb hr hlocks hK hP hD hS dX4_addEntry_88 hQ rfl (by rw [← ho])
    · have hm := if_t hc hm
      refine lv_aload_n hx hb dX4_addEntry_55 rfl (lv_at hl 0 rfl) ?_
      refine lv_dup hx hb dX4_addEntry_56 rfl ?_
      refine va_get (D := D) (ci := 4) (v := .int t_rules) (C := RX4) (T := TX4) (N := 12) hx hb hts in_X4 hown hK hP 0 rfl rfl 7 (by decide) (hts _ kf_X4_36) (fun _ h9 => h9) rfl dX4_addEntry_57 ?_
      refine lv_iconst (v := (1 : Int32)) hx hb dX4_addEntry_60 (by decide) ?_
      refine lv_iadd hx hb dX4_addEntry_61 ?_
      refine lv_topi (fun v7 ev7 => ?_)
      have hm := lt_at ev7 hm
      refine va_put (D := D) (ci := 4) (v := .int v7) (ty := .int) (C := RX4) (T := TX4) (N := 12) hx hb hts in_X4 tyX4 tyX4_ok nmX4 hown hK hP hD hS 0 rfl rfl 7 (by decide) (hts _ kf_X4_36) (fun _ h9 => h9) rfl (by decide +kernel) rfl rfl (Nat.le_of_ble_eq_true rfl) dX4_addEntry_62 (fun H locs hP hD hS => ?_)
      have hP : va_P D vwCl [(t, .inr (4, [.ref t_kind_a, .ref t_place_a, .ref t_who_a, .ref t_width_a, .ref t_term_a, .ref t_start_a, .int t_size, .int v7, .ref t_sort_a, .ref t_arity_a, .ref t_stratum_a, .ref t_reach_a])), (t_kind_a, .inl (cI, 240, .inl f1)), (t_place_a, .inl (cI, 240, .inl f3)), (t_who_a, .inl (cI, 240, .inl f2)), (t_width_a, .inl (cI, 240, .inl f4)), (t_start_a, .inl (cI, 241, .inl t_start))] H := hP
      have hD : va_D A [(t, .inr (4, [.ref t_kind_a, .ref t_place_a, .ref t_who_a, .ref t_width_a, .ref t_term_a, .ref t_start_a, .int t_size, .int v7, .ref t_sort_a, .ref t_arity_a, .ref t_stratum_a, .ref t_reach_a])), (t_kind_a, .inl (cI, 240, .inl f1)), (t_place_a, .inl (cI, 240, .inl f3)), (t_who_a, .inl (cI, 240, .inl f2)), (t_width_a, .inl (cI, 240, .inl f4)), (t_start_a, .inl (cI, 241, .inl t_start))] := hD
      refine lv_aload_n hx hb dX4_addEntry_65 rfl (lv_at hl 0 rfl) ?_
      refine lv_dup hx hb dX4_addEntry_66 rfl ?_
      refine va_get (D := D) (ci := 4) (v := .int t_size) (C := RX4) (T := TX4) (N := 12) hx hb hts in_X4 hown hK hP 0 rfl rfl 6 (by decide) (hts _ kf_X4_32) (fun _ h9 => h9) rfl dX4_addEntry_67 ?_
      refine lv_iconst (v := (1 : Int32)) hx hb dX4_addEntry_70 (by decide) ?_
      refine lv_iadd hx hb dX4_addEntry_71 ?_
      refine lv_topi (fun v8 ev8 => ?_)
      have hm := lt_at ev8 hm
      refine va_put (D := D) (ci := 4) (v := .int v8) (ty := .int) (C := RX4) (T := TX4) (N := 12) hx hb hts in_X4 tyX4 tyX4_ok nmX4 hown hK hP hD hS 0 rfl rfl 6 (by decide) (hts _ kf_X4_32) (fun _ h9 => h9) rfl (by decide +kernel) rfl rfl (Nat.le_of_ble_eq_true rfl) dX4_addEntry_72 (fun H locs hP hD hS => ?_)
      have hP : va_P D vwCl [(t, .inr (4, [.ref t_kind_a, .ref t_place_a, .ref t_who_a, .ref t_width_a, .ref t_term_a, .ref t_start_a, .int v8, .int v7, .ref t_sort_a, .ref t_arity_a, .ref t_stratum_a, .ref t_reach_a])), (t_kind_a, .inl (cI, 240, .inl f1)), (t_place_a, .inl (cI, 240, .inl f3)), (t_who_a, .inl (cI, 240, .inl f2)), (t_width_a, .inl (cI, 240, .inl f4)), (t_start_a, .inl (cI, 241, .inl t_start))] H := hP
      have hD : va_D A [(t, .inr (4, [.ref t_kind_a, .ref t_place_a, .ref t_who_a, .ref t_width_a, .ref t_term_a, .ref t_start_a, .int v8, .int v7, .ref t_sort_a, .ref t_arity_a, .ref t_stratum_a, .ref t_reach_a])), (t_kind_a, .inl (cI, 240, .inl f1)), (t_place_a, .inl (cI, 240, .inl f3)), (t_who_a, .inl (cI, 240, .inl f2)), (t_width_a, .inl (cI, 240, .inl f4)), (t_start_a, .inl (cI, 241, .inl t_start))] := hD
      refine lv_aload_n hx hb dX4_addEntry_75 rfl (lv_at hl 0 rfl) ?_
      refine va_get (D := D) (ci := 4) (v := .ref t_start_a) (C := RX4) (T := TX4) (N := 12) hx hb hts in_X4 hown hK hP 0 rfl rfl 5 (by decide) (hts _ kf_X4_29) (fun _ h9 => h9) rfl dX4_addEntry_76 ?_
      refine lv_aload_n hx hb dX4_addEntry_79 rfl (lv_at hl 0 rfl) ?_
      refine va_get (D := D) (ci := 4) (v := .int v7) (C := RX4) (T := TX4) (N := 12) hx hb hts in_X4 hown hK hP 0 rfl rfl 7 (by decide) (hts _ kf_X4_36) (fun _ h9 => h9) rfl dX4_addEntry_80 ?_
      refine lv_aload_n hx hb dX4_addEntry_83 rfl (lv_at hl 0 rfl) ?_
      refine va_get (D := D) (ci := 4) (v := .int v8) (C := RX4) (T := TX4) (N := 12) hx hb hts in_X4 hown hK hP 0 rfl rfl 6 (by decide) (hts _ kf_X4_32) (fun _ h9 => h9) rfl dX4_addEntry_84 ?_
      refine k_iast hx hb hK hP hD hS 5 1 rfl rfl (gd_in hm) dX4_addEntry_87 (fun f9 ef9 H locs hP hD hS => ?_)
      have hm := lt_at ef9 (gd_go hm)
      have hP : va_P D vwCl [(t, .inr (4, [.ref t_kind_a, .ref t_place_a, .ref t_who_a, .ref t_width_a, .ref t_term_a, .ref t_start_a, .int v8, .int v7, .ref t_sort_a, .ref t_arity_a, .ref t_stratum_a, .ref t_reach_a])), (t_kind_a, .inl (cI, 240, .inl f1)), (t_place_a, .inl (cI, 240, .inl f3)), (t_who_a, .inl (cI, 240, .inl f2)), (t_width_a, .inl (cI, 240, .inl f4)), (t_start_a, .inl (cI, 241, .inl f9))] H := hP
      have hD : va_D A [(t, .inr (4, [.ref t_kind_a, .ref t_place_a, .ref t_who_a, .ref t_width_a, .ref t_term_a, .ref t_start_a, .int v8, .int v7, .ref t_sort_a, .ref t_arity_a, .ref t_stratum_a, .ref t_reach_a])), (t_kind_a, .inl (cI, 240, .inl f1)), (t_place_a, .inl (cI, 240, .inl f3)), (t_who_a, .inl (cI, 240, .inl f2)), (t_width_a, .inl (cI, 240, .inl f4)), (t_start_a, .inl (cI, 241, .inl f9))] := hD
      have ho := Option.some.inj hm
      exact k_vret hx hb hr hlocks hK hP hD hS dX4_addEntry_88 hQ rfl (by rw [← ho])
  · have hm := if_f hc hm
    have ho := Option.some.inj hm
    exact k_vret hx hb hr hlocks hK hP hD hS dX4_addEntry_10 hQ rfl (by rw [← ho])
noncomputable def M_Program_setLastKind (t_kind : Nat → Int32) (t_size : Int32) (x0 : Int32) : Option ((Nat → Int32)) := if t_size ≤ 0 then (some t_kind) else (gd_ (t_size - (1 : Int32)) 240 <| lt_ (upd t_kind (t_size - (1 : Int32)).toNatClampNeg x0) fun f1 => some f1)
set_option maxRecDepth 100000 in
set_option maxHeartbeats 4000000 in
theorem K_Program_setLastKind (l : Launch) (D : va_G) (cB cI cZ cJ : ClassId) (t : Nat) (t_kind_a : Nat) (t_place_a : Nat) (t_who_a : Nat) (t_width_a : Nat) (t_term_a : Nat) (t_start_a : Nat) (t_sort_a : Nat) (t_arity_a : Nat) (t_stratum_a : Nat) (t_reach_a : Nat) (t_size : Int32) (t_rules : Int32) (t_kind : Nat → Int32) (x0 : Int32) (out : (Nat → Int32)) (hm : M_Program_setLastKind t_kind t_size x0 = some out) : KC l yX4_setLastKind cX4_setLastKind 2 none { frames := 0, cells := 0, slots := 0, locals := 0 } D (kTy cB cI cZ cJ) [.ref t, .int x0] [(t, .inr (4, [.ref t_kind_a, .ref t_place_a, .ref t_who_a, .ref t_width_a, .ref t_term_a, .ref t_start_a, .int t_size, .int t_rules, .ref t_sort_a, .ref t_arity_a, .ref t_stratum_a, .ref t_reach_a])), (t_kind_a, .inl (cI, 240, .inl t_kind))] none [(t, .inr (4, [.ref t_kind_a, .ref t_place_a, .ref t_who_a, .ref t_width_a, .ref t_term_a, .ref t_start_a, .int t_size, .int t_rules, .ref t_sort_a, .ref t_arity_a, .ref t_stratum_a, .ref t_reach_a])), (t_kind_a, .inl (cI, 240, .inl out))] := by
  refine KC.of (by decide +kernel) (Nat.le_of_ble_eq_true rfl) ?_
  intro p e s m below meth c A ls args Q hQ CX hA hK hP hD hl
  obtain ⟨hx, hb, hr, hml, hown, hts, hlocks⟩ := CX
  have hown : s.vm.findClass RX4 = some m.cls := hown
  have hS : va_S A s.heap s.heap [] := va_S.rf
  have hl : lv_has ls 2 [(0, .ref t), (1, .int x0)] := hl
  unfold M_Program_setLastKind at hm
  obtain ⟨H, eH⟩ : ∃ H, H = s.heap := ⟨_, rfl⟩
  obtain ⟨locs, el⟩ : ∃ x : List Loc, x = [] := ⟨_, rfl⟩
  have hP : va_P D vwCl [(t, .inr (4, [.ref t_kind_a, .ref t_place_a, .ref t_who_a, .ref t_width_a, .ref t_term_a, .ref t_start_a, .int t_size, .int t_rules, .ref t_sort_a, .ref t_arity_a, .ref t_stratum_a, .ref t_reach_a])), (t_kind_a, .inl (cI, 240, .inl t_kind))] H := eH ▸ hP
  have hS : va_S A s.heap H locs := by rw [eH, el]; exact hS
  suffices hW : W p l e { frames := 0, cells := 0, slots := 0, locals := 0 } s m args below meth c H locs 0 0 Q (F0 m 0 ls []) by rw [eH, el] at hW; exact hW
  clear eH el
  refine lv_aload_n hx hb dX4_setLastKind_0 rfl (lv_at hl 0 rfl) ?_
  refine va_get (D := D) (ci := 4) (v := .int t_size) (C := RX4) (T := TX4) (N := 12) hx hb hts in_X4 hown hK hP 0 rfl rfl 6 (by decide) (hts _ kf_X4_32) (fun _ h9 => h9) rfl dX4_setLastKind_1 ?_
  refine lv_if_le (tgt := 19) hx hb dX4_setLastKind_4 (by decide) (fun hc => ?_) (fun hc => ?_)
  · have hm := if_t hc hm
    have ho := Option.some.inj hm
    exact k_vret hx hb hr hlocks hK hP hD hS dX4_setLastKind_19 hQ rfl (by rw [← ho])
  · have hm := if_f hc hm
    refine lv_aload_n hx hb dX4_setLastKind_7 rfl (lv_at hl 0 rfl) ?_
    refine va_get (D := D) (ci := 4) (v := .ref t_kind_a) (C := RX4) (T := TX4) (N := 12) hx hb hts in_X4 hown hK hP 0 rfl rfl 0 (by decide) (hts _ kf_X4_13) (fun _ h9 => h9) rfl dX4_setLastKind_8 ?_
    refine lv_aload_n hx hb dX4_setLastKind_11 rfl (lv_at hl 0 rfl) ?_
    refine va_get (D := D) (ci := 4) (v := .int t_size) (C := RX4) (T := TX4) (N := 12) hx hb hts in_X4 hown hK hP 0 rfl rfl 6 (by decide) (hts _ kf_X4_32) (fun _ h9 => h9) rfl dX4_setLastKind_12 ?_
    refine lv_iconst (v := (1 : Int32)) hx hb dX4_setLastKind_15 (by decide) ?_
    refine lv_isub hx hb dX4_setLastKind_16 ?_
    refine lv_iload_n hx hb dX4_setLastKind_17 rfl (lv_at hl 1 rfl) ?_
    refine k_iast hx hb hK hP hD hS 1 1 rfl rfl (gd_in hm) dX4_setLastKind_18 (fun f1 ef1 H locs hP hD hS => ?_)
    have hm := lt_at ef1 (gd_go hm)
    have hP : va_P D vwCl [(t, .inr (4, [.ref t_kind_a, .ref t_place_a, .ref t_who_a, .ref t_width_a, .ref t_term_a, .ref t_start_a, .int t_size, .int t_rules, .ref t_sort_a, .ref t_arity_a, .ref t_stratum_a, .ref t_reach_a])), (t_kind_a, .inl (cI, 240, .inl f1))] H := hP
    have hD : va_D A [(t, .inr (4, [.ref t_kind_a, .ref t_place_a, .ref t_who_a, .ref t_width_a, .ref t_term_a, .ref t_start_a, .int t_size, .int t_rules, .ref t_sort_a, .ref t_arity_a, .ref t_stratum_a, .ref t_reach_a])), (t_kind_a, .inl (cI, 240, .inl f1))] := hD
    have ho := Option.some.inj hm
    exact k_vret hx hb hr hlocks hK hP hD hS dX4_setLastKind_19 hQ rfl (by rw [← ho])
noncomputable def M_Program_addTerm (t_width : Nat → Int32) (t_term : Nat → Int32) (t_size : Int32) (x0 : Int32) : Option ((Nat → Int32) × (Nat → Int32)) := lt_ ((t_size - (1 : Int32))) fun v1 => if v1 < 0 then (some (t_width, t_term)) else (gd_ v1 240 <| if (t_width v1.toNatClampNeg) < (3 : Int32) then (gd_ v1 240 <| lt_ (((v1 * (3 : Int32)) + (t_width v1.toNatClampNeg))) fun v2 => gd_ v2 720 <| lt_ (upd t_term v2.toNatClampNeg x0) fun f3 => gd_ v1 240 <| gd_ v1 240 <| lt_ (upd t_width v1.toNatClampNeg ((t_width v1.toNatClampNeg) + (1 : Int32))) fun f4 => some (f4, f3)) else (some (t_width, t_term)))
set_option maxRecDepth 100000 in
set_option maxHeartbeats 4000000 in
theorem K_Program_addTerm (l : Launch) (D : va_G) (cB cI cZ cJ : ClassId) (t : Nat) (t_kind_a : Nat) (t_place_a : Nat) (t_who_a : Nat) (t_width_a : Nat) (t_term_a : Nat) (t_start_a : Nat) (t_sort_a : Nat) (t_arity_a : Nat) (t_stratum_a : Nat) (t_reach_a : Nat) (t_size : Int32) (t_rules : Int32) (t_width : Nat → Int32) (t_term : Nat → Int32) (x0 : Int32) (out : (Nat → Int32) × (Nat → Int32)) (hm : M_Program_addTerm t_width t_term t_size x0 = some out) : KC l yX4_addTerm cX4_addTerm 3 none { frames := 0, cells := 0, slots := 0, locals := 0 } D (kTy cB cI cZ cJ) [.ref t, .int x0] [(t, .inr (4, [.ref t_kind_a, .ref t_place_a, .ref t_who_a, .ref t_width_a, .ref t_term_a, .ref t_start_a, .int t_size, .int t_rules, .ref t_sort_a, .ref t_arity_a, .ref t_stratum_a, .ref t_reach_a])), (t_width_a, .inl (cI, 240, .inl t_width)), (t_term_a, .inl (cI, 720, .inl t_term))] none [(t, .inr (4, [.ref t_kind_a, .ref t_place_a, .ref t_who_a, .ref t_width_a, .ref t_term_a, .ref t_start_a, .int t_size, .int t_rules, .ref t_sort_a, .ref t_arity_a, .ref t_stratum_a, .ref t_reach_a])), (t_width_a, .inl (cI, 240, .inl out.1)), (t_term_a, .inl (cI, 720, .inl out.2))] := by
  refine KC.of (by decide +kernel) (Nat.le_of_ble_eq_true rfl) ?_
  intro p e s m below meth c A ls args Q hQ CX hA hK hP hD hl
  obtain ⟨hx, hb, hr, hml, hown, hts, hlocks⟩ := CX
  have hown : s.vm.findClass RX4 = some m.cls := hown
  have hS : va_S A s.heap s.heap [] := va_S.rf
  have hl : lv_has ls 3 [(0, .ref t), (1, .int x0)] := hl
  unfold M_Program_addTerm at hm
  obtain ⟨H, eH⟩ : ∃ H, H = s.heap := ⟨_, rfl⟩
  obtain ⟨locs, el⟩ : ∃ x : List Loc, x = [] := ⟨_, rfl⟩
  have hP : va_P D vwCl [(t, .inr (4, [.ref t_kind_a, .ref t_place_a, .ref t_who_a, .ref t_width_a, .ref t_term_a, .ref t_start_a, .int t_size, .int t_rules, .ref t_sort_a, .ref t_arity_a, .ref t_stratum_a, .ref t_reach_a])), (t_width_a, .inl (cI, 240, .inl t_width)), (t_term_a, .inl (cI, 720, .inl t_term))] H := eH ▸ hP
  have hS : va_S A s.heap H locs := by rw [eH, el]; exact hS
  suffices hW : W p l e { frames := 0, cells := 0, slots := 0, locals := 0 } s m args below meth c H locs 0 0 Q (F0 m 0 ls []) by rw [eH, el] at hW; exact hW
  clear eH el
  refine lv_aload_n hx hb dX4_addTerm_0 rfl (lv_at hl 0 rfl) ?_
  refine va_get (D := D) (ci := 4) (v := .int t_size) (C := RX4) (T := TX4) (N := 12) hx hb hts in_X4 hown hK hP 0 rfl rfl 6 (by decide) (hts _ kf_X4_32) (fun _ h9 => h9) rfl dX4_addTerm_1 ?_
  refine lv_iconst (v := (1 : Int32)) hx hb dX4_addTerm_4 (by decide) ?_
  refine lv_isub hx hb dX4_addTerm_5 ?_
  refine lv_topi (fun v1 ev1 => ?_)
  have hm := lt_at ev1 hm
  refine lv_istore_n (lv' := [(2, .int v1), (0, .ref t), (1, .int x0)]) hx hb dX4_addTerm_6 rfl hl (by decide) rfl (fun ls hl => ?_)
  refine lv_iload_n hx hb dX4_addTerm_7 rfl (lv_at hl 0 rfl) ?_
  refine lv_if_lt (tgt := 21) hx hb dX4_addTerm_8 (by decide) (fun hc => ?_) (fun hc => ?_)
  · have hm := if_t hc hm
    have ho := Option.some.inj hm
    exact k_vret hx hb hr hlocks hK hP hD hS dX4_addTerm_21 hQ rfl (by rw [← ho])
  · have hm := if_f hc hm
    refine lv_aload_n hx hb dX4_addTerm_11 rfl (lv_at hl 1 rfl) ?_
    refine va_get (D := D) (ci := 4) (v := .ref t_width_a) (C := RX4) (T := TX4) (N := 12) hx hb hts in_X4 hown hK hP 0 rfl rfl 3 (by decide) (hts _ kf_X4_23) (fun _ h9 => h9) rfl dX4_addTerm_12 ?_
    refine lv_iload_n hx hb dX4_addTerm_15 rfl (lv_at hl 0 rfl) ?_
    refine va_iald hx hb hK hP 1 1 rfl rfl (gd_in hm) dX4_addTerm_16 ?_
    have hm := gd_go hm
    refine lv_iconst (v := (3 : Int32)) hx hb dX4_addTerm_17 (by decide) ?_
    refine lv_icmp_lt (tgt := 22) hx hb dX4_addTerm_18 (by decide) (fun hc => ?_) (fun hc => ?_)
    · have hm := if_t hc hm
      refine lv_aload_n hx hb dX4_addTerm_22 rfl (lv_at hl 1 rfl) ?_
      refine va_get (D := D) (ci := 4) (v := .ref t_term_a) (C := RX4) (T := TX4) (N := 12) hx hb hts in_X4 hown hK hP 0 rfl rfl 4 (by decide) (hts _ kf_X4_26) (fun _ h9 => h9) rfl dX4_addTerm_23 ?_
      refine lv_iload_n hx hb dX4_addTerm_26 rfl (lv_at hl 0 rfl) ?_
      refine lv_iconst (v := (3 : Int32)) hx hb dX4_addTerm_27 (by decide) ?_
      refine lv_imul hx hb dX4_addTerm_28 ?_
      refine lv_aload_n hx hb dX4_addTerm_29 rfl (lv_at hl 1 rfl) ?_
      refine va_get (D := D) (ci := 4) (v := .ref t_width_a) (C := RX4) (T := TX4) (N := 12) hx hb hts in_X4 hown hK hP 0 rfl rfl 3 (by decide) (hts _ kf_X4_23) (fun _ h9 => h9) rfl dX4_addTerm_30 ?_
      refine lv_iload_n hx hb dX4_addTerm_33 rfl (lv_at hl 0 rfl) ?_
      refine va_iald hx hb hK hP 1 1 rfl rfl (gd_in hm) dX4_addTerm_34 ?_
      have hm := gd_go hm
      refine lv_iadd hx hb dX4_addTerm_35 ?_
      refine lv_topi (fun v2 ev2 => ?_)
      have hm := lt_at ev2 hm
      refine lv_iload_n hx hb dX4_addTerm_36 rfl (lv_at hl 2 rfl) ?_
      refine k_iast hx hb hK hP hD hS 2 1 rfl rfl (gd_in hm) dX4_addTerm_37 (fun f3 ef3 H locs hP hD hS => ?_)
      have hm := lt_at ef3 (gd_go hm)
      have hP : va_P D vwCl [(t, .inr (4, [.ref t_kind_a, .ref t_place_a, .ref t_who_a, .ref t_width_a, .ref t_term_a, .ref t_start_a, .int t_size, .int t_rules, .ref t_sort_a, .ref t_arity_a, .ref t_stratum_a, .ref t_reach_a])), (t_width_a, .inl (cI, 240, .inl t_width)), (t_term_a, .inl (cI, 720, .inl f3))] H := hP
      have hD : va_D A [(t, .inr (4, [.ref t_kind_a, .ref t_place_a, .ref t_who_a, .ref t_width_a, .ref t_term_a, .ref t_start_a, .int t_size, .int t_rules, .ref t_sort_a, .ref t_arity_a, .ref t_stratum_a, .ref t_reach_a])), (t_width_a, .inl (cI, 240, .inl t_width)), (t_term_a, .inl (cI, 720, .inl f3))] := hD
      refine lv_aload_n hx hb dX4_addTerm_38 rfl (lv_at hl 1 rfl) ?_
      refine va_get (D := D) (ci := 4) (v := .ref t_width_a) (C := RX4) (T := TX4) (N := 12) hx hb hts in_X4 hown hK hP 0 rfl rfl 3 (by decide) (hts _ kf_X4_23) (fun _ h9 => h9) rfl dX4_addTerm_39 ?_
      refine lv_iload_n hx hb dX4_addTerm_42 rfl (lv_at hl 0 rfl) ?_
      refine lv_dup2_11 hx hb dX4_addTerm_43 rfl rfl ?_
      refine va_iald hx hb hK hP 1 1 rfl rfl (gd_in hm) dX4_addTerm_44 ?_
      have hm := gd_go hm
      refine lv_iconst (v := (1 : Int32)) hx hb dX4_addTerm_45 (by decide) ?_
      refine lv_iadd hx hb dX4_addTerm_46 ?_
      refine k_iast hx hb hK hP hD hS 1 1 rfl rfl (gd_in hm) dX4_addTerm_47 (fun f4 ef4 H locs hP hD hS => ?_)
      have hm := lt_at ef4 (gd_go hm)
      have hP : va_P D vwCl [(t, .inr (4, [.ref t_kind_a, .ref t_place_a, .ref t_who_a, .ref t_width_a, .ref t_term_a, .ref t_start_a, .int t_size, .int t_rules, .ref t_sort_a, .ref t_arity_a, .ref t_stratum_a, .ref t_reach_a])), (t_width_a, .inl (cI, 240, .inl f4)), (t_term_a, .inl (cI, 720, .inl f3))] H := hP
      have hD : va_D A [(t, .inr (4, [.ref t_kind_a, .ref t_place_a, .ref t_who_a, .ref t_width_a, .ref t_term_a, .ref t_start_a, .int t_size, .int t_rules, .ref t_sort_a, .ref t_arity_a, .ref t_stratum_a, .ref t_reach_a])), (t_width_a, .inl (cI, 240, .inl f4)), (t_term_a, .inl (cI, 720, .inl f3))] := hD
      have ho := Option.some.inj hm
      exact k_vret hx hb hr hlocks hK hP hD hS dX4_addTerm_48 hQ rfl (by rw [← ho])
    · have hm := if_f hc hm
      have ho := Option.some.inj hm
      exact k_vret hx hb hr hlocks hK hP hD hS dX4_addTerm_21 hQ rfl (by rw [← ho])
noncomputable def M_Program_variables_L4 (F : Nat) (t_width : Nat → Int32) (t_term : Nat → Int32) (w1 : Int32) : Nat → Int32 → Int32 → Option ((Int32))
  | 0, _, _ => none
  | n + 1, y3, y2 => gd_ w1 240 <| if (t_width w1.toNatClampNeg) ≤ y3 then (some y2) else (gd_ ((w1 * (3 : Int32)) + y3) 720 <| lt_ ((t_term ((w1 * (3 : Int32)) + y3).toNatClampNeg)) fun v1 => if v1 < (12 : Int32) then (lt_ (y3 + (1 : Int32)) fun v2 => M_Program_variables_L4 F t_width t_term w1 n v2 y2) else (lt_ (((1 : Int32) <<< ((v1 - (12 : Int32)) &&& 31))) fun v3 => lt_ ((y2 ||| v3)) fun v4 => lt_ (y3 + (1 : Int32)) fun v5 => M_Program_variables_L4 F t_width t_term w1 n v5 v4))
noncomputable def M_Program_variables (F : Nat) (t_width : Nat → Int32) (t_term : Nat → Int32) (x0 : Int32) : Option ((Int32)) := bd_ (M_Program_variables_L4 F t_width t_term x0 F (0 : Int32) (0 : Int32)) fun z6 => some z6
set_option maxRecDepth 100000 in
set_option maxHeartbeats 4000000 in
theorem K_Program_variables (l : Launch) (D : va_G) (cB cI cZ cJ : ClassId) (t : Nat) (t_kind_a : Nat) (t_place_a : Nat) (t_who_a : Nat) (t_width_a : Nat) (t_term_a : Nat) (t_start_a : Nat) (t_sort_a : Nat) (t_arity_a : Nat) (t_stratum_a : Nat) (t_reach_a : Nat) (t_size : Int32) (t_rules : Int32) (t_width : Nat → Int32) (t_term : Nat → Int32) (x0 : Int32) (F : Nat) (out : (Int32)) (hm : M_Program_variables F t_width t_term x0 = some out) : KC l yX4_variables cX4_variables 5 (some .int) { frames := 0, cells := 0, slots := 0, locals := 0 } D (kTy cB cI cZ cJ) [.ref t, .int x0] [(t, .inr (4, [.ref t_kind_a, .ref t_place_a, .ref t_who_a, .ref t_width_a, .ref t_term_a, .ref t_start_a, .int t_size, .int t_rules, .ref t_sort_a, .ref t_arity_a, .ref t_stratum_a, .ref t_reach_a])), (t_width_a, .inl (cI, 240, .inl t_width)), (t_term_a, .inl (cI, 720, .inl t_term))] (some (.int out)) [(t, .inr (4, [.ref t_kind_a, .ref t_place_a, .ref t_who_a, .ref t_width_a, .ref t_term_a, .ref t_start_a, .int t_size, .int t_rules, .ref t_sort_a, .ref t_arity_a, .ref t_stratum_a, .ref t_reach_a])), (t_width_a, .inl (cI, 240, .inl t_width)), (t_term_a, .inl (cI, 720, .inl t_term))] := by
  refine KC.of (by decide +kernel) (Nat.le_of_ble_eq_true rfl) ?_
  intro p e s m below meth c A ls args Q hQ CX hA hK hP hD hl
  obtain ⟨hx, hb, hr, hml, hown, hts, hlocks⟩ := CX
  have hown : s.vm.findClass RX4 = some m.cls := hown
  have hS : va_S A s.heap s.heap [] := va_S.rf
  have hl : lv_has ls 5 [(0, .ref t), (1, .int x0)] := hl
  have L4 : ∀ (w1 : Int32) (n : Nat) (y3 : Int32) (y2 : Int32) (z : ((Int32))), M_Program_variables_L4 F t_width t_term w1 n y3 y2 = some z →
      (∀ (H : Heap) (locs : List Loc) (ls : Array Slot), va_P D vwCl [(t, .inr (4, [.ref t_kind_a, .ref t_place_a, .ref t_who_a, .ref t_width_a, .ref t_term_a, .ref t_start_a, .int t_size, .int t_rules, .ref t_sort_a, .ref t_arity_a, .ref t_stratum_a, .ref t_reach_a])), (t_width_a, .inl (cI, 240, .inl t_width)), (t_term_a, .inl (cI, 720, .inl t_term))] H → va_D A [(t, .inr (4, [.ref t_kind_a, .ref t_place_a, .ref t_who_a, .ref t_width_a, .ref t_term_a, .ref t_start_a, .int t_size, .int t_rules, .ref t_sort_a, .ref t_arity_a, .ref t_stratum_a, .ref t_reach_a])), (t_width_a, .inl (cI, 240, .inl t_width)), (t_term_a, .inl (cI, 720, .inl t_term))] → va_S A s.heap H locs → lv_has ls 5 [(2, .int z)] → W p l e { frames := 0, cells := 0, slots := 0, locals := 0 } s m args below meth c H locs 0 0 Q (F0 m 49 ls [])) →
      ∀ (H : Heap) (locs : List Loc) (ls : Array Slot), va_P D vwCl [(t, .inr (4, [.ref t_kind_a, .ref t_place_a, .ref t_who_a, .ref t_width_a, .ref t_term_a, .ref t_start_a, .int t_size, .int t_rules, .ref t_sort_a, .ref t_arity_a, .ref t_stratum_a, .ref t_reach_a])), (t_width_a, .inl (cI, 240, .inl t_width)), (t_term_a, .inl (cI, 720, .inl t_term))] H → va_D A [(t, .inr (4, [.ref t_kind_a, .ref t_place_a, .ref t_who_a, .ref t_width_a, .ref t_term_a, .ref t_start_a, .int t_size, .int t_rules, .ref t_sort_a, .ref t_arity_a, .ref t_stratum_a, .ref t_reach_a])), (t_width_a, .inl (cI, 240, .inl t_width)), (t_term_a, .inl (cI, 720, .inl t_term))] → va_S A s.heap H locs → lv_has ls 5 [(3, .int y3), (2, .int y2), (0, .ref t), (1, .int w1)] → W p l e { frames := 0, cells := 0, slots := 0, locals := 0 } s m args below meth c H locs 0 0 Q (F0 m 4 ls []) := by
    intro w1 n
    induction n with
    | zero => intro y3 y2 z hm; unfold M_Program_variables_L4 at hm; cases hm
    | succ n ih =>
      intro y3 y2 z hm hE H locs ls hP hD hS hl
      unfold M_Program_variables_L4 at hm
      refine lv_iload_n hx hb dX4_variables_4 rfl (lv_at hl 0 rfl) ?_
      refine lv_aload_n hx hb dX4_variables_5 rfl (lv_at hl 2 rfl) ?_
      refine va_get (D := D) (ci := 4) (v := .ref t_width_a) (C := RX4) (T := TX4) (N := 12) hx hb hts in_X4 hown hK hP 0 rfl rfl 3 (by decide) (hts _ kf_X4_23) (fun _ h9 => h9) rfl dX4_variables_6 ?_
      refine lv_iload_n hx hb dX4_variables_9 rfl (lv_at hl 3 rfl) ?_
      refine va_iald hx hb hK hP 1 1 rfl rfl (gd_in hm) dX4_variables_10 ?_
      have hm := gd_go hm
      refine lv_icmp_ge (tgt := 49) hx hb dX4_variables_11 (by decide) (fun hc => ?_) (fun hc => ?_)
      · have hm := if_t hc hm
        cases hm
        exact hE H locs ls hP hD hS (lv_sub hl [1] rfl)
      · have hm := if_f hc hm
        refine lv_aload_n hx hb dX4_variables_14 rfl (lv_at hl 2 rfl) ?_
        refine va_get (D := D) (ci := 4) (v := .ref t_term_a) (C := RX4) (T := TX4) (N := 12) hx hb hts in_X4 hown hK hP 0 rfl rfl 4 (by decide) (hts _ kf_X4_26) (fun _ h9 => h9) rfl dX4_variables_15 ?_
        refine lv_iload_n hx hb dX4_variables_18 rfl (lv_at hl 3 rfl) ?_
        refine lv_iconst (v := (3 : Int32)) hx hb dX4_variables_19 (by decide) ?_
        refine lv_imul hx hb dX4_variables_20 ?_
        refine lv_iload_n hx hb dX4_variables_21 rfl (lv_at hl 0 rfl) ?_
        refine lv_iadd hx hb dX4_variables_22 ?_
        refine va_iald hx hb hK hP 2 1 rfl rfl (gd_in hm) dX4_variables_23 ?_
        have hm := gd_go hm
        refine lv_topi (fun v1 ev1 => ?_)
        have hm := lt_at ev1 hm
        refine lv_istore (lv' := [(4, .int v1), (3, .int y3), (2, .int y2), (0, .ref t), (1, .int w1)]) hx hb dX4_variables_24 hl (by decide) rfl (fun ls hl => ?_)
        refine lv_iload hx hb dX4_variables_26 (lv_at hl 0 rfl) ?_
        refine lv_bipush (v := (12 : Int32)) hx hb dX4_variables_28 (by decide) ?_
        refine lv_icmp_lt (tgt := 43) hx hb dX4_variables_30 (by decide) (fun hc => ?_) (fun hc => ?_)
        · have hm := if_t hc hm
          obtain ⟨v2, ev2⟩ : ∃ y : Int32, y = y3 + (1 : Int32) := ⟨_, rfl⟩
          have hm := lt_at ev2 hm
          refine lv_iinc (v := v2) (lv' := [(3, .int v2), (4, .int v1), (2, .int y2), (0, .ref t), (1, .int w1)]) hx hb dX4_variables_43 hl (k := 1) rfl (by rw [ev2]; rfl) (by decide) rfl (fun ls hl => ?_)
          refine lv_goto (tgt := 4) hx hb dX4_variables_46 (by decide) ?_
          exact ih v2 y2 z hm hE H locs ls hP hD hS (lv_sub hl [0, 2, 3, 4] rfl)
        · have hm := if_f hc hm
          refine lv_iload_n hx hb dX4_variables_33 rfl (lv_at hl 2 rfl) ?_
          refine lv_iconst (v := (1 : Int32)) hx hb dX4_variables_34 (by decide) ?_
          refine lv_iload hx hb dX4_variables_35 (lv_at hl 0 rfl) ?_
          refine lv_bipush (v := (12 : Int32)) hx hb dX4_variables_37 (by decide) ?_
          refine lv_isub hx hb dX4_variables_39 ?_
          refine lv_ishl hx hb dX4_variables_40 ?_
          refine lv_topi (fun v3 ev3 => ?_)
          have hm := lt_at ev3 hm
          refine lv_ior hx hb dX4_variables_41 ?_
          refine lv_topi (fun v4 ev4 => ?_)
          have hm := lt_at ev4 hm
          refine lv_istore_n (lv' := [(2, .int v4), (4, .int v1), (3, .int y3), (0, .ref t), (1, .int w1)]) hx hb dX4_variables_42 rfl hl (by decide) rfl (fun ls hl => ?_)
          obtain ⟨v5, ev5⟩ : ∃ y : Int32, y = y3 + (1 : Int32) := ⟨_, rfl⟩
          have hm := lt_at ev5 hm
          refine lv_iinc (v := v5) (lv' := [(3, .int v5), (2, .int v4), (4, .int v1), (0, .ref t), (1, .int w1)]) hx hb dX4_variables_43 hl (k := 2) rfl (by rw [ev5]; rfl) (by decide) rfl (fun ls hl => ?_)
          refine lv_goto (tgt := 4) hx hb dX4_variables_46 (by decide) ?_
          exact ih v5 v4 z hm hE H locs ls hP hD hS (lv_sub hl [0, 1, 3, 4] rfl)
  unfold M_Program_variables at hm
  obtain ⟨H, eH⟩ : ∃ H, H = s.heap := ⟨_, rfl⟩
  obtain ⟨locs, el⟩ : ∃ x : List Loc, x = [] := ⟨_, rfl⟩
  have hP : va_P D vwCl [(t, .inr (4, [.ref t_kind_a, .ref t_place_a, .ref t_who_a, .ref t_width_a, .ref t_term_a, .ref t_start_a, .int t_size, .int t_rules, .ref t_sort_a, .ref t_arity_a, .ref t_stratum_a, .ref t_reach_a])), (t_width_a, .inl (cI, 240, .inl t_width)), (t_term_a, .inl (cI, 720, .inl t_term))] H := eH ▸ hP
  have hS : va_S A s.heap H locs := by rw [eH, el]; exact hS
  suffices hW : W p l e { frames := 0, cells := 0, slots := 0, locals := 0 } s m args below meth c H locs 0 0 Q (F0 m 0 ls []) by rw [eH, el] at hW; exact hW
  clear eH el
  refine lv_iconst (v := (0 : Int32)) hx hb dX4_variables_0 (by decide) ?_
  refine lv_istore_n (lv' := [(2, .int (0 : Int32)), (0, .ref t), (1, .int x0)]) hx hb dX4_variables_1 rfl hl (by decide) rfl (fun ls hl => ?_)
  refine lv_iconst (v := (0 : Int32)) hx hb dX4_variables_2 (by decide) ?_
  refine lv_istore_n (lv' := [(3, .int (0 : Int32)), (2, .int (0 : Int32)), (0, .ref t), (1, .int x0)]) hx hb dX4_variables_3 rfl hl (by decide) rfl (fun ls hl => ?_)
  obtain ⟨z6, hz6, hm⟩ := bd_at hm
  refine L4 x0 F (0 : Int32) (0 : Int32) z6 hz6 (fun H locs ls hP hD hS hl => ?_) H locs ls hP hD hS (lv_sub hl [0, 1, 2, 3] rfl)
  refine lv_iload_n hx hb dX4_variables_49 rfl (lv_at hl 0 rfl) ?_
  have ho := Option.some.inj hm
  exact k_iret hx hb hr hlocks hK hP hD hS dX4_variables_50 hQ (by rw [← ho]) rfl
noncomputable def M_Program_isAtom (t_kind : Nat → Int32) (x0 : Int32) : Option ((Int32)) := gd_ x0 240 <| if (2 : Int32) < (t_kind x0.toNatClampNeg) then (some (0 : Int32)) else (some (1 : Int32))
set_option maxRecDepth 100000 in
set_option maxHeartbeats 4000000 in
theorem K_Program_isAtom (l : Launch) (D : va_G) (cB cI cZ cJ : ClassId) (t : Nat) (t_kind_a : Nat) (t_place_a : Nat) (t_who_a : Nat) (t_width_a : Nat) (t_term_a : Nat) (t_start_a : Nat) (t_sort_a : Nat) (t_arity_a : Nat) (t_stratum_a : Nat) (t_reach_a : Nat) (t_size : Int32) (t_rules : Int32) (t_kind : Nat → Int32) (x0 : Int32) (out : (Int32)) (hm : M_Program_isAtom t_kind x0 = some out) : KC l yX4_isAtom cX4_isAtom 2 (some .boolean) { frames := 0, cells := 0, slots := 0, locals := 0 } D (kTy cB cI cZ cJ) [.ref t, .int x0] [(t, .inr (4, [.ref t_kind_a, .ref t_place_a, .ref t_who_a, .ref t_width_a, .ref t_term_a, .ref t_start_a, .int t_size, .int t_rules, .ref t_sort_a, .ref t_arity_a, .ref t_stratum_a, .ref t_reach_a])), (t_kind_a, .inl (cI, 240, .inl t_kind))] (some (.int out)) [(t, .inr (4, [.ref t_kind_a, .ref t_place_a, .ref t_who_a, .ref t_width_a, .ref t_term_a, .ref t_start_a, .int t_size, .int t_rules, .ref t_sort_a, .ref t_arity_a, .ref t_stratum_a, .ref t_reach_a])), (t_kind_a, .inl (cI, 240, .inl t_kind))] := by
  refine KC.of (by decide +kernel) (Nat.le_of_ble_eq_true rfl) ?_
  intro p e s m below meth c A ls args Q hQ CX hA hK hP hD hl
  obtain ⟨hx, hb, hr, hml, hown, hts, hlocks⟩ := CX
  have hown : s.vm.findClass RX4 = some m.cls := hown
  have hS : va_S A s.heap s.heap [] := va_S.rf
  have hl : lv_has ls 2 [(0, .ref t), (1, .int x0)] := hl
  unfold M_Program_isAtom at hm
  obtain ⟨H, eH⟩ : ∃ H, H = s.heap := ⟨_, rfl⟩
  obtain ⟨locs, el⟩ : ∃ x : List Loc, x = [] := ⟨_, rfl⟩
  have hP : va_P D vwCl [(t, .inr (4, [.ref t_kind_a, .ref t_place_a, .ref t_who_a, .ref t_width_a, .ref t_term_a, .ref t_start_a, .int t_size, .int t_rules, .ref t_sort_a, .ref t_arity_a, .ref t_stratum_a, .ref t_reach_a])), (t_kind_a, .inl (cI, 240, .inl t_kind))] H := eH ▸ hP
  have hS : va_S A s.heap H locs := by rw [eH, el]; exact hS
  suffices hW : W p l e { frames := 0, cells := 0, slots := 0, locals := 0 } s m args below meth c H locs 0 0 Q (F0 m 0 ls []) by rw [eH, el] at hW; exact hW
  clear eH el
  refine lv_aload_n hx hb dX4_isAtom_0 rfl (lv_at hl 0 rfl) ?_
  refine va_get (D := D) (ci := 4) (v := .ref t_kind_a) (C := RX4) (T := TX4) (N := 12) hx hb hts in_X4 hown hK hP 0 rfl rfl 0 (by decide) (hts _ kf_X4_13) (fun _ h9 => h9) rfl dX4_isAtom_1 ?_
  refine lv_iload_n hx hb dX4_isAtom_4 rfl (lv_at hl 1 rfl) ?_
  refine va_iald hx hb hK hP 1 1 rfl rfl (gd_in hm) dX4_isAtom_5 ?_
  have hm := gd_go hm
  refine lv_iconst (v := (2 : Int32)) hx hb dX4_isAtom_6 (by decide) ?_
  refine lv_icmp_gt (tgt := 14) hx hb dX4_isAtom_7 (by decide) (fun hc => ?_) (fun hc => ?_)
  · have hm := if_t hc hm
    refine lv_iconst (v := (0 : Int32)) hx hb dX4_isAtom_14 (by decide) ?_
    have ho := Option.some.inj hm
    exact k_zret (by decide +kernel) hx hb hr hlocks hK hP hD hS dX4_isAtom_15 hQ (by rw [← ho]) rfl
  · have hm := if_f hc hm
    refine lv_iconst (v := (1 : Int32)) hx hb dX4_isAtom_10 (by decide) ?_
    refine lv_goto (tgt := 15) hx hb dX4_isAtom_11 (by decide) ?_
    have ho := Option.some.inj hm
    exact k_zret (by decide +kernel) hx hb hr hlocks hK hP hD hS dX4_isAtom_15 hQ (by rw [← ho]) rfl
noncomputable def M_Program_describeAtom (t_kind : Nat → Int32) (t_who : Nat → Int32) (t_width : Nat → Int32) (t_sort : Nat → Int32) (t_arity : Nat → Int32) (x0 : Int32) : Option ((Nat → Int32) × (Nat → Int32)) := gd_ x0 240 <| lt_ ((t_who x0.toNatClampNeg)) fun v1 => gd_ v1 10 <| if (t_sort v1.toNatClampNeg) = 0 then (gd_ v1 10 <| lt_ (upd t_sort v1.toNatClampNeg (1 : Int32)) fun f3 => gd_ x0 240 <| gd_ v1 10 <| lt_ (upd t_arity v1.toNatClampNeg (t_width x0.toNatClampNeg)) fun f4 => gd_ x0 240 <| if (t_kind x0.toNatClampNeg) = 0 then (gd_ v1 10 <| lt_ (upd f3 v1.toNatClampNeg (2 : Int32)) fun f5 => some (f5, f4)) else (some (f3, f4))) else (gd_ x0 240 <| if (t_kind x0.toNatClampNeg) = 0 then (gd_ v1 10 <| lt_ (upd t_sort v1.toNatClampNeg (2 : Int32)) fun f2 => some (f2, t_arity)) else (some (t_sort, t_arity)))
set_option maxRecDepth 100000 in
set_option maxHeartbeats 4000000 in
theorem K_Program_describeAtom (l : Launch) (D : va_G) (cB cI cZ cJ : ClassId) (t : Nat) (t_kind_a : Nat) (t_place_a : Nat) (t_who_a : Nat) (t_width_a : Nat) (t_term_a : Nat) (t_start_a : Nat) (t_sort_a : Nat) (t_arity_a : Nat) (t_stratum_a : Nat) (t_reach_a : Nat) (t_size : Int32) (t_rules : Int32) (t_kind : Nat → Int32) (t_who : Nat → Int32) (t_width : Nat → Int32) (t_sort : Nat → Int32) (t_arity : Nat → Int32) (x0 : Int32) (out : (Nat → Int32) × (Nat → Int32)) (hm : M_Program_describeAtom t_kind t_who t_width t_sort t_arity x0 = some out) : KC l yX4_describeAtom cX4_describeAtom 3 none { frames := 0, cells := 0, slots := 0, locals := 0 } D (kTy cB cI cZ cJ) [.ref t, .int x0] [(t, .inr (4, [.ref t_kind_a, .ref t_place_a, .ref t_who_a, .ref t_width_a, .ref t_term_a, .ref t_start_a, .int t_size, .int t_rules, .ref t_sort_a, .ref t_arity_a, .ref t_stratum_a, .ref t_reach_a])), (t_kind_a, .inl (cI, 240, .inl t_kind)), (t_who_a, .inl (cI, 240, .inl t_who)), (t_width_a, .inl (cI, 240, .inl t_width)), (t_sort_a, .inl (cI, 10, .inl t_sort)), (t_arity_a, .inl (cI, 10, .inl t_arity))] none [(t, .inr (4, [.ref t_kind_a, .ref t_place_a, .ref t_who_a, .ref t_width_a, .ref t_term_a, .ref t_start_a, .int t_size, .int t_rules, .ref t_sort_a, .ref t_arity_a, .ref t_stratum_a, .ref t_reach_a])), (t_kind_a, .inl (cI, 240, .inl t_kind)), (t_who_a, .inl (cI, 240, .inl t_who)), (t_width_a, .inl (cI, 240, .inl t_width)), (t_sort_a, .inl (cI, 10, .inl out.1)), (t_arity_a, .inl (cI, 10, .inl out.2))] := by
  refine KC.of (by decide +kernel) (Nat.le_of_ble_eq_true rfl) ?_
  intro p e s m below meth c A ls args Q hQ CX hA hK hP hD hl
  obtain ⟨hx, hb, hr, hml, hown, hts, hlocks⟩ := CX
  have hown : s.vm.findClass RX4 = some m.cls := hown
  have hS : va_S A s.heap s.heap [] := va_S.rf
  have hl : lv_has ls 3 [(0, .ref t), (1, .int x0)] := hl
  unfold M_Program_describeAtom at hm
  obtain ⟨H, eH⟩ : ∃ H, H = s.heap := ⟨_, rfl⟩
  obtain ⟨locs, el⟩ : ∃ x : List Loc, x = [] := ⟨_, rfl⟩
  have hP : va_P D vwCl [(t, .inr (4, [.ref t_kind_a, .ref t_place_a, .ref t_who_a, .ref t_width_a, .ref t_term_a, .ref t_start_a, .int t_size, .int t_rules, .ref t_sort_a, .ref t_arity_a, .ref t_stratum_a, .ref t_reach_a])), (t_kind_a, .inl (cI, 240, .inl t_kind)), (t_who_a, .inl (cI, 240, .inl t_who)), (t_width_a, .inl (cI, 240, .inl t_width)), (t_sort_a, .inl (cI, 10, .inl t_sort)), (t_arity_a, .inl (cI, 10, .inl t_arity))] H := eH ▸ hP
  have hS : va_S A s.heap H locs := by rw [eH, el]; exact hS
  suffices hW : W p l e { frames := 0, cells := 0, slots := 0, locals := 0 } s m args below meth c H locs 0 0 Q (F0 m 0 ls []) by rw [eH, el] at hW; exact hW
  clear eH el
  refine lv_aload_n hx hb dX4_describeAtom_0 rfl (lv_at hl 0 rfl) ?_
  refine va_get (D := D) (ci := 4) (v := .ref t_who_a) (C := RX4) (T := TX4) (N := 12) hx hb hts in_X4 hown hK hP 0 rfl rfl 2 (by decide) (hts _ kf_X4_20) (fun _ h9 => h9) rfl dX4_describeAtom_1 ?_
  refine lv_iload_n hx hb dX4_describeAtom_4 rfl (lv_at hl 1 rfl) ?_
  refine va_iald hx hb hK hP 2 1 rfl rfl (gd_in hm) dX4_describeAtom_5 ?_
  have hm := gd_go hm
  refine lv_topi (fun v1 ev1 => ?_)
  have hm := lt_at ev1 hm
  refine lv_istore_n (lv' := [(2, .int v1), (0, .ref t), (1, .int x0)]) hx hb dX4_describeAtom_6 rfl hl (by decide) rfl (fun ls hl => ?_)
  refine lv_aload_n hx hb dX4_describeAtom_7 rfl (lv_at hl 1 rfl) ?_
  refine va_get (D := D) (ci := 4) (v := .ref t_sort_a) (C := RX4) (T := TX4) (N := 12) hx hb hts in_X4 hown hK hP 0 rfl rfl 8 (by decide) (hts _ kf_X4_39) (fun _ h9 => h9) rfl dX4_describeAtom_8 ?_
  refine lv_iload_n hx hb dX4_describeAtom_11 rfl (lv_at hl 0 rfl) ?_
  refine va_iald hx hb hK hP 4 1 rfl rfl (gd_in hm) dX4_describeAtom_12 ?_
  have hm := gd_go hm
  refine lv_if_ne (tgt := 35) hx hb dX4_describeAtom_13 (by decide) (fun hc => ?_) (fun hc => ?_)
  · have hm := if_f hc hm
    refine lv_aload_n hx hb dX4_describeAtom_35 rfl (lv_at hl 1 rfl) ?_
    refine va_get (D := D) (ci := 4) (v := .ref t_kind_a) (C := RX4) (T := TX4) (N := 12) hx hb hts in_X4 hown hK hP 0 rfl rfl 0 (by decide) (hts _ kf_X4_13) (fun _ h9 => h9) rfl dX4_describeAtom_36 ?_
    refine lv_iload_n hx hb dX4_describeAtom_39 rfl (lv_at hl 2 rfl) ?_
    refine va_iald hx hb hK hP 1 1 rfl rfl (gd_in hm) dX4_describeAtom_40 ?_
    have hm := gd_go hm
    refine lv_if_ne (tgt := 51) hx hb dX4_describeAtom_41 (by decide) (fun hc => ?_) (fun hc => ?_)
    · have hm := if_f hc hm
      have ho := Option.some.inj hm
      exact k_vret hx hb hr hlocks hK hP hD hS dX4_describeAtom_51 hQ rfl (by rw [← ho])
    · have hm := if_t hc hm
      refine lv_aload_n hx hb dX4_describeAtom_44 rfl (lv_at hl 1 rfl) ?_
      refine va_get (D := D) (ci := 4) (v := .ref t_sort_a) (C := RX4) (T := TX4) (N := 12) hx hb hts in_X4 hown hK hP 0 rfl rfl 8 (by decide) (hts _ kf_X4_39) (fun _ h9 => h9) rfl dX4_describeAtom_45 ?_
      refine lv_iload_n hx hb dX4_describeAtom_48 rfl (lv_at hl 0 rfl) ?_
      refine lv_iconst (v := (2 : Int32)) hx hb dX4_describeAtom_49 (by decide) ?_
      refine k_iast hx hb hK hP hD hS 4 1 rfl rfl (gd_in hm) dX4_describeAtom_50 (fun f2 ef2 H locs hP hD hS => ?_)
      have hm := lt_at ef2 (gd_go hm)
      have hP : va_P D vwCl [(t, .inr (4, [.ref t_kind_a, .ref t_place_a, .ref t_who_a, .ref t_width_a, .ref t_term_a, .ref t_start_a, .int t_size, .int t_rules, .ref t_sort_a, .ref t_arity_a, .ref t_stratum_a, .ref t_reach_a])), (t_kind_a, .inl (cI, 240, .inl t_kind)), (t_who_a, .inl (cI, 240, .inl t_who)), (t_width_a, .inl (cI, 240, .inl t_width)), (t_sort_a, .inl (cI, 10, .inl f2)), (t_arity_a, .inl (cI, 10, .inl t_arity))] H := hP
      have hD : va_D A [(t, .inr (4, [.ref t_kind_a, .ref t_place_a, .ref t_who_a, .ref t_width_a, .ref t_term_a, .ref t_start_a, .int t_size, .int t_rules, .ref t_sort_a, .ref t_arity_a, .ref t_stratum_a, .ref t_reach_a])), (t_kind_a, .inl (cI, 240, .inl t_kind)), (t_who_a, .inl (cI, 240, .inl t_who)), (t_width_a, .inl (cI, 240, .inl t_width)), (t_sort_a, .inl (cI, 10, .inl f2)), (t_arity_a, .inl (cI, 10, .inl t_arity))] := hD
      have ho := Option.some.inj hm
      exact k_vret hx hb hr hlocks hK hP hD hS dX4_describeAtom_51 hQ rfl (by rw [← ho])
  · have hm := if_t hc hm
    refine lv_aload_n hx hb dX4_describeAtom_16 rfl (lv_at hl 1 rfl) ?_
    refine va_get (D := D) (ci := 4) (v := .ref t_sort_a) (C := RX4) (T := TX4) (N := 12) hx hb hts in_X4 hown hK hP 0 rfl rfl 8 (by decide) (hts _ kf_X4_39) (fun _ h9 => h9) rfl dX4_describeAtom_17 ?_
    refine lv_iload_n hx hb dX4_describeAtom_20 rfl (lv_at hl 0 rfl) ?_
    refine lv_iconst (v := (1 : Int32)) hx hb dX4_describeAtom_21 (by decide) ?_
    refine k_iast hx hb hK hP hD hS 4 1 rfl rfl (gd_in hm) dX4_describeAtom_22 (fun f3 ef3 H locs hP hD hS => ?_)
    have hm := lt_at ef3 (gd_go hm)
    have hP : va_P D vwCl [(t, .inr (4, [.ref t_kind_a, .ref t_place_a, .ref t_who_a, .ref t_width_a, .ref t_term_a, .ref t_start_a, .int t_size, .int t_rules, .ref t_sort_a, .ref t_arity_a, .ref t_stratum_a, .ref t_reach_a])), (t_kind_a, .inl (cI, 240, .inl t_kind)), (t_who_a, .inl (cI, 240, .inl t_who)), (t_width_a, .inl (cI, 240, .inl t_width)), (t_sort_a, .inl (cI, 10, .inl f3)), (t_arity_a, .inl (cI, 10, .inl t_arity))] H := hP
    have hD : va_D A [(t, .inr (4, [.ref t_kind_a, .ref t_place_a, .ref t_who_a, .ref t_width_a, .ref t_term_a, .ref t_start_a, .int t_size, .int t_rules, .ref t_sort_a, .ref t_arity_a, .ref t_stratum_a, .ref t_reach_a])), (t_kind_a, .inl (cI, 240, .inl t_kind)), (t_who_a, .inl (cI, 240, .inl t_who)), (t_width_a, .inl (cI, 240, .inl t_width)), (t_sort_a, .inl (cI, 10, .inl f3)), (t_arity_a, .inl (cI, 10, .inl t_arity))] := hD
    refine lv_aload_n hx hb dX4_describeAtom_23 rfl (lv_at hl 1 rfl) ?_
    refine va_get (D := D) (ci := 4) (v := .ref t_arity_a) (C := RX4) (T := TX4) (N := 12) hx hb hts in_X4 hown hK hP 0 rfl rfl 9 (by decide) (hts _ kf_X4_42) (fun _ h9 => h9) rfl dX4_describeAtom_24 ?_
    refine lv_iload_n hx hb dX4_describeAtom_27 rfl (lv_at hl 0 rfl) ?_
    refine lv_aload_n hx hb dX4_describeAtom_28 rfl (lv_at hl 1 rfl) ?_
    refine va_get (D := D) (ci := 4) (v := .ref t_width_a) (C := RX4) (T := TX4) (N := 12) hx hb hts in_X4 hown hK hP 0 rfl rfl 3 (by decide) (hts _ kf_X4_23) (fun _ h9 => h9) rfl dX4_describeAtom_29 ?_
    refine lv_iload_n hx hb dX4_describeAtom_32 rfl (lv_at hl 2 rfl) ?_
    refine va_iald hx hb hK hP 3 1 rfl rfl (gd_in hm) dX4_describeAtom_33 ?_
    have hm := gd_go hm
    refine k_iast hx hb hK hP hD hS 5 1 rfl rfl (gd_in hm) dX4_describeAtom_34 (fun f4 ef4 H locs hP hD hS => ?_)
    have hm := lt_at ef4 (gd_go hm)
    have hP : va_P D vwCl [(t, .inr (4, [.ref t_kind_a, .ref t_place_a, .ref t_who_a, .ref t_width_a, .ref t_term_a, .ref t_start_a, .int t_size, .int t_rules, .ref t_sort_a, .ref t_arity_a, .ref t_stratum_a, .ref t_reach_a])), (t_kind_a, .inl (cI, 240, .inl t_kind)), (t_who_a, .inl (cI, 240, .inl t_who)), (t_width_a, .inl (cI, 240, .inl t_width)), (t_sort_a, .inl (cI, 10, .inl f3)), (t_arity_a, .inl (cI, 10, .inl f4))] H := hP
    have hD : va_D A [(t, .inr (4, [.ref t_kind_a, .ref t_place_a, .ref t_who_a, .ref t_width_a, .ref t_term_a, .ref t_start_a, .int t_size, .int t_rules, .ref t_sort_a, .ref t_arity_a, .ref t_stratum_a, .ref t_reach_a])), (t_kind_a, .inl (cI, 240, .inl t_kind)), (t_who_a, .inl (cI, 240, .inl t_who)), (t_width_a, .inl (cI, 240, .inl t_width)), (t_sort_a, .inl (cI, 10, .inl f3)), (t_arity_a, .inl (cI, 10, .inl f4))] := hD
    refine lv_aload_n hx hb dX4_describeAtom_35 rfl (lv_at hl 1 rfl) ?_
    refine va_get (D := D) (ci := 4) (v := .ref t_kind_a) (C := RX4) (T := TX4) (N := 12) hx hb hts in_X4 hown hK hP 0 rfl rfl 0 (by decide) (hts _ kf_X4_13) (fun _ h9 => h9) rfl dX4_describeAtom_36 ?_
    refine lv_iload_n hx hb dX4_describeAtom_39 rfl (lv_at hl 2 rfl) ?_
    refine va_iald hx hb hK hP 1 1 rfl rfl (gd_in hm) dX4_describeAtom_40 ?_
    have hm := gd_go hm
    refine lv_if_ne (tgt := 51) hx hb dX4_describeAtom_41 (by decide) (fun hc => ?_) (fun hc => ?_)
    · have hm := if_f hc hm
      have ho := Option.some.inj hm
      exact k_vret hx hb hr hlocks hK hP hD hS dX4_describeAtom_51 hQ rfl (by rw [← ho])
    · have hm := if_t hc hm
      refine lv_aload_n hx hb dX4_describeAtom_44 rfl (lv_at hl 1 rfl) ?_
      refine va_get (D := D) (ci := 4) (v := .ref t_sort_a) (C := RX4) (T := TX4) (N := 12) hx hb hts in_X4 hown hK hP 0 rfl rfl 8 (by decide) (hts _ kf_X4_39) (fun _ h9 => h9) rfl dX4_describeAtom_45 ?_
      refine lv_iload_n hx hb dX4_describeAtom_48 rfl (lv_at hl 0 rfl) ?_
      refine lv_iconst (v := (2 : Int32)) hx hb dX4_describeAtom_49 (by decide) ?_
      refine k_iast hx hb hK hP hD hS 4 1 rfl rfl (gd_in hm) dX4_describeAtom_50 (fun f5 ef5 H locs hP hD hS => ?_)
      have hm := lt_at ef5 (gd_go hm)
      have hP : va_P D vwCl [(t, .inr (4, [.ref t_kind_a, .ref t_place_a, .ref t_who_a, .ref t_width_a, .ref t_term_a, .ref t_start_a, .int t_size, .int t_rules, .ref t_sort_a, .ref t_arity_a, .ref t_stratum_a, .ref t_reach_a])), (t_kind_a, .inl (cI, 240, .inl t_kind)), (t_who_a, .inl (cI, 240, .inl t_who)), (t_width_a, .inl (cI, 240, .inl t_width)), (t_sort_a, .inl (cI, 10, .inl f5)), (t_arity_a, .inl (cI, 10, .inl f4))] H := hP
      have hD : va_D A [(t, .inr (4, [.ref t_kind_a, .ref t_place_a, .ref t_who_a, .ref t_width_a, .ref t_term_a, .ref t_start_a, .int t_size, .int t_rules, .ref t_sort_a, .ref t_arity_a, .ref t_stratum_a, .ref t_reach_a])), (t_kind_a, .inl (cI, 240, .inl t_kind)), (t_who_a, .inl (cI, 240, .inl t_who)), (t_width_a, .inl (cI, 240, .inl t_width)), (t_sort_a, .inl (cI, 10, .inl f5)), (t_arity_a, .inl (cI, 10, .inl f4))] := hD
      have ho := Option.some.inj hm
      exact k_vret hx hb hr hlocks hK hP hD hS dX4_describeAtom_51 hQ rfl (by rw [← ho])
noncomputable def M_Program_closeReach_L21 (F : Nat) (t_kind : Nat → Int32) (t_who : Nat → Int32) (t_start : Nat → Int32) (w2 : Int32) (w1 : Int32) : Nat → Int32 → (Nat → Int32) → Option ((Nat → Int32))
  | 0, _, _ => none
  | n + 1, y3, c_t_reach => gd_ (w1 + (1 : Int32)) 241 <| lt_ ((t_start (w1 + (1 : Int32)).toNatClampNeg)) fun v3 => if v3 ≤ y3 then (some c_t_reach) else (bd_ (M_Program_isAtom t_kind y3) fun z4 => if z4 = 0 then (lt_ (y3 + (1 : Int32)) fun v5 => M_Program_closeReach_L21 F t_kind t_who t_start w2 w1 n v5 c_t_reach) else (gd_ w2 240 <| gd_ (t_who w2.toNatClampNeg) 10 <| lt_ ((c_t_reach (t_who w2.toNatClampNeg).toNatClampNeg)) fun v6 => gd_ y3 240 <| lt_ (((1 : Int32) <<< ((t_who y3.toNatClampNeg) &&& 31))) fun v7 => gd_ (t_who w2.toNatClampNeg) 10 <| lt_ (upd c_t_reach (t_who w2.toNatClampNeg).toNatClampNeg (v6 ||| v7)) fun f8 => lt_ (y3 + (1 : Int32)) fun v9 => M_Program_closeReach_L21 F t_kind t_who t_start w2 w1 n v9 f8))
noncomputable def M_Program_closeReach_L2 (F : Nat) (t_kind : Nat → Int32) (t_who : Nat → Int32) (t_start : Nat → Int32) (t_rules : Int32) : Nat → Int32 → (Nat → Int32) → Option ((Nat → Int32))
  | 0, _, _ => none
  | n + 1, y1, c_t_reach => if t_rules ≤ y1 then (some c_t_reach) else (gd_ y1 241 <| lt_ ((t_start y1.toNatClampNeg)) fun v1 => lt_ ((v1 + (1 : Int32))) fun v2 => bd_ (M_Program_closeReach_L21 F t_kind t_who t_start v1 y1 F v2 c_t_reach) fun z10 => lt_ (y1 + (1 : Int32)) fun v11 => M_Program_closeReach_L2 F t_kind t_who t_start t_rules n v11 z10)
noncomputable def M_Program_closeReach_L85 (F : Nat) (w1 : Int32) : Nat → Int32 → (Nat → Int32) → Option ((Nat → Int32))
  | 0, _, _ => none
  | n + 1, y2, c_t_reach => if (10 : Int32) ≤ y2 then (some c_t_reach) else (gd_ y2 10 <| lt_ (((c_t_reach y2.toNatClampNeg) >>> (w1 &&& 31))) fun v13 => if (v13 &&& (1 : Int32)) = 0 then (lt_ (y2 + (1 : Int32)) fun v14 => M_Program_closeReach_L85 F w1 n v14 c_t_reach) else (gd_ y2 10 <| gd_ w1 10 <| lt_ (((c_t_reach y2.toNatClampNeg) ||| (c_t_reach w1.toNatClampNeg))) fun v15 => gd_ y2 10 <| lt_ (upd c_t_reach y2.toNatClampNeg v15) fun f16 => lt_ (y2 + (1 : Int32)) fun v17 => M_Program_closeReach_L85 F w1 n v17 f16))
noncomputable def M_Program_closeReach_L77 (F : Nat) : Nat → Int32 → (Nat → Int32) → Option ((Nat → Int32))
  | 0, _, _ => none
  | n + 1, y1, c_t_reach => if (10 : Int32) ≤ y1 then (some c_t_reach) else (bd_ (M_Program_closeReach_L85 F y1 F (0 : Int32) c_t_reach) fun z18 => lt_ (y1 + (1 : Int32)) fun v19 => M_Program_closeReach_L77 F n v19 z18)
noncomputable def M_Program_closeReach (F : Nat) (t_kind : Nat → Int32) (t_who : Nat → Int32) (t_start : Nat → Int32) (t_rules : Int32) (t_reach : Nat → Int32) : Option ((Nat → Int32)) := bd_ (M_Program_closeReach_L2 F t_kind t_who t_start t_rules F (0 : Int32) t_reach) fun z12 => bd_ (M_Program_closeReach_L77 F F (0 : Int32) z12) fun z20 => some z20
set_option maxRecDepth 100000 in
set_option maxHeartbeats 4000000 in
theorem K_Program_closeReach (l : Launch) (D : va_G) (cB cI cZ cJ : ClassId) (t : Nat) (t_kind_a : Nat) (t_place_a : Nat) (t_who_a : Nat) (t_width_a : Nat) (t_term_a : Nat) (t_start_a : Nat) (t_sort_a : Nat) (t_arity_a : Nat) (t_stratum_a : Nat) (t_reach_a : Nat) (t_size : Int32) (t_rules : Int32) (t_kind : Nat → Int32) (t_who : Nat → Int32) (t_start : Nat → Int32) (t_reach : Nat → Int32) (F : Nat) (out : (Nat → Int32)) (hm : M_Program_closeReach F t_kind t_who t_start t_rules t_reach = some out) : KC l yX4_closeReach cX4_closeReach 4 none { frames := 1, cells := 0, slots := 0, locals := 21 } D (kTy cB cI cZ cJ) [.ref t] [(t, .inr (4, [.ref t_kind_a, .ref t_place_a, .ref t_who_a, .ref t_width_a, .ref t_term_a, .ref t_start_a, .int t_size, .int t_rules, .ref t_sort_a, .ref t_arity_a, .ref t_stratum_a, .ref t_reach_a])), (t_kind_a, .inl (cI, 240, .inl t_kind)), (t_who_a, .inl (cI, 240, .inl t_who)), (t_start_a, .inl (cI, 241, .inl t_start)), (t_reach_a, .inl (cI, 10, .inl t_reach))] none [(t, .inr (4, [.ref t_kind_a, .ref t_place_a, .ref t_who_a, .ref t_width_a, .ref t_term_a, .ref t_start_a, .int t_size, .int t_rules, .ref t_sort_a, .ref t_arity_a, .ref t_stratum_a, .ref t_reach_a])), (t_kind_a, .inl (cI, 240, .inl t_kind)), (t_who_a, .inl (cI, 240, .inl t_who)), (t_start_a, .inl (cI, 241, .inl t_start)), (t_reach_a, .inl (cI, 10, .inl out))] := by
  refine KC.of (by decide +kernel) (Nat.le_of_ble_eq_true rfl) ?_
  intro p e s m below meth c A ls args Q hQ CX hA hK hP hD hl
  obtain ⟨hx, hb, hr, hml, hown, hts, hlocks⟩ := CX
  have hown : s.vm.findClass RX4 = some m.cls := hown
  have hS : va_S A s.heap s.heap [] := va_S.rf
  have hl : lv_has ls 4 [(0, .ref t)] := hl
  have L21 : ∀ (w2 : Int32) (w1 : Int32) (n : Nat) (y3 : Int32) (c_t_reach : Nat → Int32) (z : ((Nat → Int32))), M_Program_closeReach_L21 F t_kind t_who t_start w2 w1 n y3 c_t_reach = some z →
      (∀ (H : Heap) (locs : List Loc) (ls : Array Slot), va_P D vwCl [(t, .inr (4, [.ref t_kind_a, .ref t_place_a, .ref t_who_a, .ref t_width_a, .ref t_term_a, .ref t_start_a, .int t_size, .int t_rules, .ref t_sort_a, .ref t_arity_a, .ref t_stratum_a, .ref t_reach_a])), (t_kind_a, .inl (cI, 240, .inl t_kind)), (t_who_a, .inl (cI, 240, .inl t_who)), (t_start_a, .inl (cI, 241, .inl t_start)), (t_reach_a, .inl (cI, 10, .inl z))] H → va_D A [(t, .inr (4, [.ref t_kind_a, .ref t_place_a, .ref t_who_a, .ref t_width_a, .ref t_term_a, .ref t_start_a, .int t_size, .int t_rules, .ref t_sort_a, .ref t_arity_a, .ref t_stratum_a, .ref t_reach_a])), (t_kind_a, .inl (cI, 240, .inl t_kind)), (t_who_a, .inl (cI, 240, .inl t_who)), (t_start_a, .inl (cI, 241, .inl t_start)), (t_reach_a, .inl (cI, 10, .inl z))] → va_S A s.heap H locs → lv_has ls 4 [(1, .int w1), (0, .ref t)] → W p l e { frames := 1, cells := 0, slots := 0, locals := 21 } s m args below meth c H locs 0 0 Q (F0 m 69 ls [])) →
      ∀ (H : Heap) (locs : List Loc) (ls : Array Slot), va_P D vwCl [(t, .inr (4, [.ref t_kind_a, .ref t_place_a, .ref t_who_a, .ref t_width_a, .ref t_term_a, .ref t_start_a, .int t_size, .int t_rules, .ref t_sort_a, .ref t_arity_a, .ref t_stratum_a, .ref t_reach_a])), (t_kind_a, .inl (cI, 240, .inl t_kind)), (t_who_a, .inl (cI, 240, .inl t_who)), (t_start_a, .inl (cI, 241, .inl t_start)), (t_reach_a, .inl (cI, 10, .inl c_t_reach))] H → va_D A [(t, .inr (4, [.ref t_kind_a, .ref t_place_a, .ref t_who_a, .ref t_width_a, .ref t_term_a, .ref t_start_a, .int t_size, .int t_rules, .ref t_sort_a, .ref t_arity_a, .ref t_stratum_a, .ref t_reach_a])), (t_kind_a, .inl (cI, 240, .inl t_kind)), (t_who_a, .inl (cI, 240, .inl t_who)), (t_start_a, .inl (cI, 241, .inl t_start)), (t_reach_a, .inl (cI, 10, .inl c_t_reach))] → va_S A s.heap H locs → lv_has ls 4 [(3, .int y3), (2, .int w2), (1, .int w1), (0, .ref t)] → W p l e { frames := 1, cells := 0, slots := 0, locals := 21 } s m args below meth c H locs 0 0 Q (F0 m 21 ls []) := by
    intro w2 w1 n
    induction n with
    | zero => intro y3 c_t_reach z hm; unfold M_Program_closeReach_L21 at hm; cases hm
    | succ n ih =>
      intro y3 c_t_reach z hm hE H locs ls hP hD hS hl
      unfold M_Program_closeReach_L21 at hm
      refine lv_iload_n hx hb dX4_closeReach_21 rfl (lv_at hl 0 rfl) ?_
      refine lv_aload_n hx hb dX4_closeReach_22 rfl (lv_at hl 3 rfl) ?_
      refine va_get (D := D) (ci := 4) (v := .ref t_start_a) (C := RX4) (T := TX4) (N := 12) hx hb hts in_X4 hown hK hP 0 rfl rfl 5 (by decide) (hts _ kf_X4_29) (fun _ h9 => h9) rfl dX4_closeReach_23 ?_
      refine lv_iload_n hx hb dX4_closeReach_26 rfl (lv_at hl 2 rfl) ?_
      refine lv_iconst (v := (1 : Int32)) hx hb dX4_closeReach_27 (by decide) ?_
      refine lv_iadd hx hb dX4_closeReach_28 ?_
      refine va_iald hx hb hK hP 3 1 rfl rfl (gd_in hm) dX4_closeReach_29 ?_
      have hm := gd_go hm
      refine lv_topi (fun v3 ev3 => ?_)
      have hm := lt_at ev3 hm
      refine lv_icmp_ge (tgt := 69) hx hb dX4_closeReach_30 (by decide) (fun hc => ?_) (fun hc => ?_)
      · have hm := if_t hc hm
        cases hm
        exact hE H locs ls hP hD hS (lv_sub hl [2, 3] rfl)
      · have hm := if_f hc hm
        refine lv_aload_n hx hb dX4_closeReach_33 rfl (lv_at hl 3 rfl) ?_
        refine lv_iload_n hx hb dX4_closeReach_34 rfl (lv_at hl 0 rfl) ?_
        obtain ⟨z4, hz4, hm⟩ := bd_at hm
        refine k_callV (As := [.int y3]) (rest := []) (wr := [(t_who_a, .inl (cI, 240, .inl t_who)), (t_start_a, .inl (cI, 241, .inl t_start)), (t_reach_a, .inl (cI, 10, .inl c_t_reach))]) (ws1 := [(t, .inr (4, [.ref t_kind_a, .ref t_place_a, .ref t_who_a, .ref t_width_a, .ref t_term_a, .ref t_start_a, .int t_size, .int t_rules, .ref t_sort_a, .ref t_arity_a, .ref t_stratum_a, .ref t_reach_a])), (t_kind_a, .inl (cI, 240, .inl t_kind)), (t_who_a, .inl (cI, 240, .inl t_who)), (t_start_a, .inl (cI, 241, .inl t_start)), (t_reach_a, .inl (cI, 10, .inl c_t_reach))]) [0, 1] [2, 3, 4] [3, 4, 0, 1, 2] (K_Program_isAtom l D cB cI cZ cJ t t_kind_a t_place_a t_who_a t_width_a t_term_a t_start_a t_sort_a t_arity_a t_stratum_a t_reach_a t_size t_rules t_kind y3 z4 hz4) mf_X4_isAtom km_X4_51 hx hb hml hown hts hK hP hD hS hA hl.1 ⟨Nat.zero_le _, Nat.zero_le _⟩ dX4_closeReach_35 rfl rfl (Nat.le_of_ble_eq_true rfl) ⟨⟨rfl, rfl⟩, Nat.le_of_ble_eq_true rfl, Nat.le_of_ble_eq_true rfl⟩ rfl rfl (by decide) rfl rfl rfl rfl (fun H locs hP hD hS => ?_)
        have hP : va_P D vwCl [(t, .inr (4, [.ref t_kind_a, .ref t_place_a, .ref t_who_a, .ref t_width_a, .ref t_term_a, .ref t_start_a, .int t_size, .int t_rules, .ref t_sort_a, .ref t_arity_a, .ref t_stratum_a, .ref t_reach_a])), (t_kind_a, .inl (cI, 240, .inl t_kind)), (t_who_a, .inl (cI, 240, .inl t_who)), (t_start_a, .inl (cI, 241, .inl t_start)), (t_reach_a, .inl (cI, 10, .inl c_t_reach))] H := hP
        have hD : va_D A [(t, .inr (4, [.ref t_kind_a, .ref t_place_a, .ref t_who_a, .ref t_width_a, .ref t_term_a, .ref t_start_a, .int t_size, .int t_rules, .ref t_sort_a, .ref t_arity_a, .ref t_stratum_a, .ref t_reach_a])), (t_kind_a, .inl (cI, 240, .inl t_kind)), (t_who_a, .inl (cI, 240, .inl t_who)), (t_start_a, .inl (cI, 241, .inl t_start)), (t_reach_a, .inl (cI, 10, .inl c_t_reach))] := hD
        refine lv_if_eq (tgt := 63) hx hb dX4_closeReach_38 (by decide) (fun hc => ?_) (fun hc => ?_)
        · have hm := if_t hc hm
          obtain ⟨v5, ev5⟩ : ∃ y : Int32, y = y3 + (1 : Int32) := ⟨_, rfl⟩
          have hm := lt_at ev5 hm
          refine lv_iinc (v := v5) (lv' := [(3, .int v5), (2, .int w2), (1, .int w1), (0, .ref t)]) hx hb dX4_closeReach_63 hl (k := 0) rfl (by rw [ev5]; rfl) (by decide) rfl (fun ls hl => ?_)
          refine lv_goto (tgt := 21) hx hb dX4_closeReach_66 (by decide) ?_
          exact ih v5 c_t_reach z hm hE H locs ls hP hD hS (lv_sub hl [0, 1, 2, 3] rfl)
        · have hm := if_f hc hm
          refine lv_aload_n hx hb dX4_closeReach_41 rfl (lv_at hl 3 rfl) ?_
          refine va_get (D := D) (ci := 4) (v := .ref t_reach_a) (C := RX4) (T := TX4) (N := 12) hx hb hts in_X4 hown hK hP 0 rfl rfl 11 (by decide) (hts _ kf_X4_48) (fun _ h9 => h9) rfl dX4_closeReach_42 ?_
          refine lv_aload_n hx hb dX4_closeReach_45 rfl (lv_at hl 3 rfl) ?_
          refine va_get (D := D) (ci := 4) (v := .ref t_who_a) (C := RX4) (T := TX4) (N := 12) hx hb hts in_X4 hown hK hP 0 rfl rfl 2 (by decide) (hts _ kf_X4_20) (fun _ h9 => h9) rfl dX4_closeReach_46 ?_
          refine lv_iload_n hx hb dX4_closeReach_49 rfl (lv_at hl 1 rfl) ?_
          refine va_iald hx hb hK hP 2 1 rfl rfl (gd_in hm) dX4_closeReach_50 ?_
          have hm := gd_go hm
          refine lv_dup2_11 hx hb dX4_closeReach_51 rfl rfl ?_
          refine va_iald hx hb hK hP 4 1 rfl rfl (gd_in hm) dX4_closeReach_52 ?_
          have hm := gd_go hm
          refine lv_topi (fun v6 ev6 => ?_)
          have hm := lt_at ev6 hm
          refine lv_iconst (v := (1 : Int32)) hx hb dX4_closeReach_53 (by decide) ?_
          refine lv_aload_n hx hb dX4_closeReach_54 rfl (lv_at hl 3 rfl) ?_
          refine va_get (D := D) (ci := 4) (v := .ref t_who_a) (C := RX4) (T := TX4) (N := 12) hx hb hts in_X4 hown hK hP 0 rfl rfl 2 (by decide) (hts _ kf_X4_20) (fun _ h9 => h9) rfl dX4_closeReach_55 ?_
          refine lv_iload_n hx hb dX4_closeReach_58 rfl (lv_at hl 0 rfl) ?_
          refine va_iald hx hb hK hP 2 1 rfl rfl (gd_in hm) dX4_closeReach_59 ?_
          have hm := gd_go hm
          refine lv_ishl hx hb dX4_closeReach_60 ?_
          refine lv_topi (fun v7 ev7 => ?_)
          have hm := lt_at ev7 hm
          refine lv_ior hx hb dX4_closeReach_61 ?_
          refine k_iast hx hb hK hP hD hS 4 1 rfl rfl (gd_in hm) dX4_closeReach_62 (fun f8 ef8 H locs hP hD hS => ?_)
          have hm := lt_at ef8 (gd_go hm)
          have hP : va_P D vwCl [(t, .inr (4, [.ref t_kind_a, .ref t_place_a, .ref t_who_a, .ref t_width_a, .ref t_term_a, .ref t_start_a, .int t_size, .int t_rules, .ref t_sort_a, .ref t_arity_a, .ref t_stratum_a, .ref t_reach_a])), (t_kind_a, .inl (cI, 240, .inl t_kind)), (t_who_a, .inl (cI, 240, .inl t_who)), (t_start_a, .inl (cI, 241, .inl t_start)), (t_reach_a, .inl (cI, 10, .inl f8))] H := hP
          have hD : va_D A [(t, .inr (4, [.ref t_kind_a, .ref t_place_a, .ref t_who_a, .ref t_width_a, .ref t_term_a, .ref t_start_a, .int t_size, .int t_rules, .ref t_sort_a, .ref t_arity_a, .ref t_stratum_a, .ref t_reach_a])), (t_kind_a, .inl (cI, 240, .inl t_kind)), (t_who_a, .inl (cI, 240, .inl t_who)), (t_start_a, .inl (cI, 241, .inl t_start)), (t_reach_a, .inl (cI, 10, .inl f8))] := hD
          obtain ⟨v9, ev9⟩ : ∃ y : Int32, y = y3 + (1 : Int32) := ⟨_, rfl⟩
          have hm := lt_at ev9 hm
          refine lv_iinc (v := v9) (lv' := [(3, .int v9), (2, .int w2), (1, .int w1), (0, .ref t)]) hx hb dX4_closeReach_63 hl (k := 0) rfl (by rw [ev9]; rfl) (by decide) rfl (fun ls hl => ?_)
          refine lv_goto (tgt := 21) hx hb dX4_closeReach_66 (by decide) ?_
          exact ih v9 f8 z hm hE H locs ls hP hD hS (lv_sub hl [0, 1, 2, 3] rfl)
  have L2 : ∀ (n : Nat) (y1 : Int32) (c_t_reach : Nat → Int32) (z : ((Nat → Int32))), M_Program_closeReach_L2 F t_kind t_who t_start t_rules n y1 c_t_reach = some z →
      (∀ (H : Heap) (locs : List Loc) (ls : Array Slot), va_P D vwCl [(t, .inr (4, [.ref t_kind_a, .ref t_place_a, .ref t_who_a, .ref t_width_a, .ref t_term_a, .ref t_start_a, .int t_size, .int t_rules, .ref t_sort_a, .ref t_arity_a, .ref t_stratum_a, .ref t_reach_a])), (t_kind_a, .inl (cI, 240, .inl t_kind)), (t_who_a, .inl (cI, 240, .inl t_who)), (t_start_a, .inl (cI, 241, .inl t_start)), (t_reach_a, .inl (cI, 10, .inl z))] H → va_D A [(t, .inr (4, [.ref t_kind_a, .ref t_place_a, .ref t_who_a, .ref t_width_a, .ref t_term_a, .ref t_start_a, .int t_size, .int t_rules, .ref t_sort_a, .ref t_arity_a, .ref t_stratum_a, .ref t_reach_a])), (t_kind_a, .inl (cI, 240, .inl t_kind)), (t_who_a, .inl (cI, 240, .inl t_who)), (t_start_a, .inl (cI, 241, .inl t_start)), (t_reach_a, .inl (cI, 10, .inl z))] → va_S A s.heap H locs → lv_has ls 4 [(0, .ref t)] → W p l e { frames := 1, cells := 0, slots := 0, locals := 21 } s m args below meth c H locs 0 0 Q (F0 m 75 ls [])) →
      ∀ (H : Heap) (locs : List Loc) (ls : Array Slot), va_P D vwCl [(t, .inr (4, [.ref t_kind_a, .ref t_place_a, .ref t_who_a, .ref t_width_a, .ref t_term_a, .ref t_start_a, .int t_size, .int t_rules, .ref t_sort_a, .ref t_arity_a, .ref t_stratum_a, .ref t_reach_a])), (t_kind_a, .inl (cI, 240, .inl t_kind)), (t_who_a, .inl (cI, 240, .inl t_who)), (t_start_a, .inl (cI, 241, .inl t_start)), (t_reach_a, .inl (cI, 10, .inl c_t_reach))] H → va_D A [(t, .inr (4, [.ref t_kind_a, .ref t_place_a, .ref t_who_a, .ref t_width_a, .ref t_term_a, .ref t_start_a, .int t_size, .int t_rules, .ref t_sort_a, .ref t_arity_a, .ref t_stratum_a, .ref t_reach_a])), (t_kind_a, .inl (cI, 240, .inl t_kind)), (t_who_a, .inl (cI, 240, .inl t_who)), (t_start_a, .inl (cI, 241, .inl t_start)), (t_reach_a, .inl (cI, 10, .inl c_t_reach))] → va_S A s.heap H locs → lv_has ls 4 [(1, .int y1), (0, .ref t)] → W p l e { frames := 1, cells := 0, slots := 0, locals := 21 } s m args below meth c H locs 0 0 Q (F0 m 2 ls []) := by
    intro  n
    induction n with
    | zero => intro y1 c_t_reach z hm; unfold M_Program_closeReach_L2 at hm; cases hm
    | succ n ih =>
      intro y1 c_t_reach z hm hE H locs ls hP hD hS hl
      unfold M_Program_closeReach_L2 at hm
      refine lv_iload_n hx hb dX4_closeReach_2 rfl (lv_at hl 0 rfl) ?_
      refine lv_aload_n hx hb dX4_closeReach_3 rfl (lv_at hl 1 rfl) ?_
      refine va_get (D := D) (ci := 4) (v := .int t_rules) (C := RX4) (T := TX4) (N := 12) hx hb hts in_X4 hown hK hP 0 rfl rfl 7 (by decide) (hts _ kf_X4_36) (fun _ h9 => h9) rfl dX4_closeReach_4 ?_
      refine lv_icmp_ge (tgt := 75) hx hb dX4_closeReach_7 (by decide) (fun hc => ?_) (fun hc => ?_)
      · have hm := if_t hc hm
        cases hm
        exact hE H locs ls hP hD hS (lv_sub hl [1] rfl)
      · have hm := if_f hc hm
        refine lv_aload_n hx hb dX4_closeReach_10 rfl (lv_at hl 1 rfl) ?_
        refine va_get (D := D) (ci := 4) (v := .ref t_start_a) (C := RX4) (T := TX4) (N := 12) hx hb hts in_X4 hown hK hP 0 rfl rfl 5 (by decide) (hts _ kf_X4_29) (fun _ h9 => h9) rfl dX4_closeReach_11 ?_
        refine lv_iload_n hx hb dX4_closeReach_14 rfl (lv_at hl 0 rfl) ?_
        refine va_iald hx hb hK hP 3 1 rfl rfl (gd_in hm) dX4_closeReach_15 ?_
        have hm := gd_go hm
        refine lv_topi (fun v1 ev1 => ?_)
        have hm := lt_at ev1 hm
        refine lv_istore_n (lv' := [(2, .int v1), (1, .int y1), (0, .ref t)]) hx hb dX4_closeReach_16 rfl hl (by decide) rfl (fun ls hl => ?_)
        refine lv_iload_n hx hb dX4_closeReach_17 rfl (lv_at hl 0 rfl) ?_
        refine lv_iconst (v := (1 : Int32)) hx hb dX4_closeReach_18 (by decide) ?_
        refine lv_iadd hx hb dX4_closeReach_19 ?_
        refine lv_topi (fun v2 ev2 => ?_)
        have hm := lt_at ev2 hm
        refine lv_istore_n (lv' := [(3, .int v2), (2, .int v1), (1, .int y1), (0, .ref t)]) hx hb dX4_closeReach_20 rfl hl (by decide) rfl (fun ls hl => ?_)
        obtain ⟨z10, hz10, hm⟩ := bd_at hm
        refine L21 v1 y1 F v2 c_t_reach z10 hz10 (fun H locs ls hP hD hS hl => ?_) H locs ls hP hD hS (lv_sub hl [0, 1, 2, 3] rfl)
        obtain ⟨v11, ev11⟩ : ∃ y : Int32, y = y1 + (1 : Int32) := ⟨_, rfl⟩
        have hm := lt_at ev11 hm
        refine lv_iinc (v := v11) (lv' := [(1, .int v11), (0, .ref t)]) hx hb dX4_closeReach_69 hl (k := 0) rfl (by rw [ev11]; rfl) (by decide) rfl (fun ls hl => ?_)
        refine lv_goto (tgt := 2) hx hb dX4_closeReach_72 (by decide) ?_
        exact ih v11 z10 z hm hE H locs ls hP hD hS (lv_sub hl [0, 1] rfl)
  have L85 : ∀ (w1 : Int32) (n : Nat) (y2 : Int32) (c_t_reach : Nat → Int32) (z : ((Nat → Int32))), M_Program_closeReach_L85 F w1 n y2 c_t_reach = some z →
      (∀ (H : Heap) (locs : List Loc) (ls : Array Slot), va_P D vwCl [(t, .inr (4, [.ref t_kind_a, .ref t_place_a, .ref t_who_a, .ref t_width_a, .ref t_term_a, .ref t_start_a, .int t_size, .int t_rules, .ref t_sort_a, .ref t_arity_a, .ref t_stratum_a, .ref t_reach_a])), (t_kind_a, .inl (cI, 240, .inl t_kind)), (t_who_a, .inl (cI, 240, .inl t_who)), (t_start_a, .inl (cI, 241, .inl t_start)), (t_reach_a, .inl (cI, 10, .inl z))] H → va_D A [(t, .inr (4, [.ref t_kind_a, .ref t_place_a, .ref t_who_a, .ref t_width_a, .ref t_term_a, .ref t_start_a, .int t_size, .int t_rules, .ref t_sort_a, .ref t_arity_a, .ref t_stratum_a, .ref t_reach_a])), (t_kind_a, .inl (cI, 240, .inl t_kind)), (t_who_a, .inl (cI, 240, .inl t_who)), (t_start_a, .inl (cI, 241, .inl t_start)), (t_reach_a, .inl (cI, 10, .inl z))] → va_S A s.heap H locs → lv_has ls 4 [(1, .int w1), (0, .ref t)] → W p l e { frames := 1, cells := 0, slots := 0, locals := 21 } s m args below meth c H locs 0 0 Q (F0 m 125 ls [])) →
      ∀ (H : Heap) (locs : List Loc) (ls : Array Slot), va_P D vwCl [(t, .inr (4, [.ref t_kind_a, .ref t_place_a, .ref t_who_a, .ref t_width_a, .ref t_term_a, .ref t_start_a, .int t_size, .int t_rules, .ref t_sort_a, .ref t_arity_a, .ref t_stratum_a, .ref t_reach_a])), (t_kind_a, .inl (cI, 240, .inl t_kind)), (t_who_a, .inl (cI, 240, .inl t_who)), (t_start_a, .inl (cI, 241, .inl t_start)), (t_reach_a, .inl (cI, 10, .inl c_t_reach))] H → va_D A [(t, .inr (4, [.ref t_kind_a, .ref t_place_a, .ref t_who_a, .ref t_width_a, .ref t_term_a, .ref t_start_a, .int t_size, .int t_rules, .ref t_sort_a, .ref t_arity_a, .ref t_stratum_a, .ref t_reach_a])), (t_kind_a, .inl (cI, 240, .inl t_kind)), (t_who_a, .inl (cI, 240, .inl t_who)), (t_start_a, .inl (cI, 241, .inl t_start)), (t_reach_a, .inl (cI, 10, .inl c_t_reach))] → va_S A s.heap H locs → lv_has ls 4 [(2, .int y2), (1, .int w1), (0, .ref t)] → W p l e { frames := 1, cells := 0, slots := 0, locals := 21 } s m args below meth c H locs 0 0 Q (F0 m 85 ls []) := by
    intro w1 n
    induction n with
    | zero => intro y2 c_t_reach z hm; unfold M_Program_closeReach_L85 at hm; cases hm
    | succ n ih =>
      intro y2 c_t_reach z hm hE H locs ls hP hD hS hl
      unfold M_Program_closeReach_L85 at hm
      refine lv_iload_n hx hb dX4_closeReach_85 rfl (lv_at hl 0 rfl) ?_
      refine lv_bipush (v := (10 : Int32)) hx hb dX4_closeReach_86 (by decide) ?_
      refine lv_icmp_ge (tgt := 125) hx hb dX4_closeReach_88 (by decide) (fun hc => ?_) (fun hc => ?_)
      · have hm := if_t hc hm
        cases hm
        exact hE H locs ls hP hD hS (lv_sub hl [1, 2] rfl)
      · have hm := if_f hc hm
        refine lv_aload_n hx hb dX4_closeReach_91 rfl (lv_at hl 2 rfl) ?_
        refine va_get (D := D) (ci := 4) (v := .ref t_reach_a) (C := RX4) (T := TX4) (N := 12) hx hb hts in_X4 hown hK hP 0 rfl rfl 11 (by decide) (hts _ kf_X4_48) (fun _ h9 => h9) rfl dX4_closeReach_92 ?_
        refine lv_iload_n hx hb dX4_closeReach_95 rfl (lv_at hl 0 rfl) ?_
        refine va_iald hx hb hK hP 4 1 rfl rfl (gd_in hm) dX4_closeReach_96 ?_
        have hm := gd_go hm
        refine lv_iload_n hx hb dX4_closeReach_97 rfl (lv_at hl 1 rfl) ?_
        refine lv_ishr hx hb dX4_closeReach_98 ?_
        refine lv_topi (fun v13 ev13 => ?_)
        have hm := lt_at ev13 hm
        refine lv_iconst (v := (1 : Int32)) hx hb dX4_closeReach_99 (by decide) ?_
        refine lv_iand hx hb dX4_closeReach_100 ?_
        refine lv_if_eq (tgt := 119) hx hb dX4_closeReach_101 (by decide) (fun hc => ?_) (fun hc => ?_)
        · have hm := if_t hc hm
          obtain ⟨v14, ev14⟩ : ∃ y : Int32, y = y2 + (1 : Int32) := ⟨_, rfl⟩
          have hm := lt_at ev14 hm
          refine lv_iinc (v := v14) (lv' := [(2, .int v14), (1, .int w1), (0, .ref t)]) hx hb dX4_closeReach_119 hl (k := 0) rfl (by rw [ev14]; rfl) (by decide) rfl (fun ls hl => ?_)
          refine lv_goto (tgt := 85) hx hb dX4_closeReach_122 (by decide) ?_
          exact ih v14 c_t_reach z hm hE H locs ls hP hD hS (lv_sub hl [0, 1, 2] rfl)
        · have hm := if_f hc hm
          refine lv_aload_n hx hb dX4_closeReach_104 rfl (lv_at hl 2 rfl) ?_
          refine va_get (D := D) (ci := 4) (v := .ref t_reach_a) (C := RX4) (T := TX4) (N := 12) hx hb hts in_X4 hown hK hP 0 rfl rfl 11 (by decide) (hts _ kf_X4_48) (fun _ h9 => h9) rfl dX4_closeReach_105 ?_
          refine lv_iload_n hx hb dX4_closeReach_108 rfl (lv_at hl 0 rfl) ?_
          refine lv_dup2_11 hx hb dX4_closeReach_109 rfl rfl ?_
          refine va_iald hx hb hK hP 4 1 rfl rfl (gd_in hm) dX4_closeReach_110 ?_
          have hm := gd_go hm
          refine lv_aload_n hx hb dX4_closeReach_111 rfl (lv_at hl 2 rfl) ?_
          refine va_get (D := D) (ci := 4) (v := .ref t_reach_a) (C := RX4) (T := TX4) (N := 12) hx hb hts in_X4 hown hK hP 0 rfl rfl 11 (by decide) (hts _ kf_X4_48) (fun _ h9 => h9) rfl dX4_closeReach_112 ?_
          refine lv_iload_n hx hb dX4_closeReach_115 rfl (lv_at hl 1 rfl) ?_
          refine va_iald hx hb hK hP 4 1 rfl rfl (gd_in hm) dX4_closeReach_116 ?_
          have hm := gd_go hm
          refine lv_ior hx hb dX4_closeReach_117 ?_
          refine lv_topi (fun v15 ev15 => ?_)
          have hm := lt_at ev15 hm
          refine k_iast hx hb hK hP hD hS 4 1 rfl rfl (gd_in hm) dX4_closeReach_118 (fun f16 ef16 H locs hP hD hS => ?_)
          have hm := lt_at ef16 (gd_go hm)
          have hP : va_P D vwCl [(t, .inr (4, [.ref t_kind_a, .ref t_place_a, .ref t_who_a, .ref t_width_a, .ref t_term_a, .ref t_start_a, .int t_size, .int t_rules, .ref t_sort_a, .ref t_arity_a, .ref t_stratum_a, .ref t_reach_a])), (t_kind_a, .inl (cI, 240, .inl t_kind)), (t_who_a, .inl (cI, 240, .inl t_who)), (t_start_a, .inl (cI, 241, .inl t_start)), (t_reach_a, .inl (cI, 10, .inl f16))] H := hP
          have hD : va_D A [(t, .inr (4, [.ref t_kind_a, .ref t_place_a, .ref t_who_a, .ref t_width_a, .ref t_term_a, .ref t_start_a, .int t_size, .int t_rules, .ref t_sort_a, .ref t_arity_a, .ref t_stratum_a, .ref t_reach_a])), (t_kind_a, .inl (cI, 240, .inl t_kind)), (t_who_a, .inl (cI, 240, .inl t_who)), (t_start_a, .inl (cI, 241, .inl t_start)), (t_reach_a, .inl (cI, 10, .inl f16))] := hD
          obtain ⟨v17, ev17⟩ : ∃ y : Int32, y = y2 + (1 : Int32) := ⟨_, rfl⟩
          have hm := lt_at ev17 hm
          refine lv_iinc (v := v17) (lv' := [(2, .int v17), (1, .int w1), (0, .ref t)]) hx hb dX4_closeReach_119 hl (k := 0) rfl (by rw [ev17]; rfl) (by decide) rfl (fun ls hl => ?_)
          refine lv_goto (tgt := 85) hx hb dX4_closeReach_122 (by decide) ?_
          exact ih v17 f16 z hm hE H locs ls hP hD hS (lv_sub hl [0, 1, 2] rfl)
  have L77 : ∀ (n : Nat) (y1 : Int32) (c_t_reach : Nat → Int32) (z : ((Nat → Int32))), M_Program_closeReach_L77 F n y1 c_t_reach = some z →
      (∀ (H : Heap) (locs : List Loc) (ls : Array Slot), va_P D vwCl [(t, .inr (4, [.ref t_kind_a, .ref t_place_a, .ref t_who_a, .ref t_width_a, .ref t_term_a, .ref t_start_a, .int t_size, .int t_rules, .ref t_sort_a, .ref t_arity_a, .ref t_stratum_a, .ref t_reach_a])), (t_kind_a, .inl (cI, 240, .inl t_kind)), (t_who_a, .inl (cI, 240, .inl t_who)), (t_start_a, .inl (cI, 241, .inl t_start)), (t_reach_a, .inl (cI, 10, .inl z))] H → va_D A [(t, .inr (4, [.ref t_kind_a, .ref t_place_a, .ref t_who_a, .ref t_width_a, .ref t_term_a, .ref t_start_a, .int t_size, .int t_rules, .ref t_sort_a, .ref t_arity_a, .ref t_stratum_a, .ref t_reach_a])), (t_kind_a, .inl (cI, 240, .inl t_kind)), (t_who_a, .inl (cI, 240, .inl t_who)), (t_start_a, .inl (cI, 241, .inl t_start)), (t_reach_a, .inl (cI, 10, .inl z))] → va_S A s.heap H locs → lv_has ls 4 [] → W p l e { frames := 1, cells := 0, slots := 0, locals := 21 } s m args below meth c H locs 0 0 Q (F0 m 131 ls [])) →
      ∀ (H : Heap) (locs : List Loc) (ls : Array Slot), va_P D vwCl [(t, .inr (4, [.ref t_kind_a, .ref t_place_a, .ref t_who_a, .ref t_width_a, .ref t_term_a, .ref t_start_a, .int t_size, .int t_rules, .ref t_sort_a, .ref t_arity_a, .ref t_stratum_a, .ref t_reach_a])), (t_kind_a, .inl (cI, 240, .inl t_kind)), (t_who_a, .inl (cI, 240, .inl t_who)), (t_start_a, .inl (cI, 241, .inl t_start)), (t_reach_a, .inl (cI, 10, .inl c_t_reach))] H → va_D A [(t, .inr (4, [.ref t_kind_a, .ref t_place_a, .ref t_who_a, .ref t_width_a, .ref t_term_a, .ref t_start_a, .int t_size, .int t_rules, .ref t_sort_a, .ref t_arity_a, .ref t_stratum_a, .ref t_reach_a])), (t_kind_a, .inl (cI, 240, .inl t_kind)), (t_who_a, .inl (cI, 240, .inl t_who)), (t_start_a, .inl (cI, 241, .inl t_start)), (t_reach_a, .inl (cI, 10, .inl c_t_reach))] → va_S A s.heap H locs → lv_has ls 4 [(1, .int y1), (0, .ref t)] → W p l e { frames := 1, cells := 0, slots := 0, locals := 21 } s m args below meth c H locs 0 0 Q (F0 m 77 ls []) := by
    intro  n
    induction n with
    | zero => intro y1 c_t_reach z hm; unfold M_Program_closeReach_L77 at hm; cases hm
    | succ n ih =>
      intro y1 c_t_reach z hm hE H locs ls hP hD hS hl
      unfold M_Program_closeReach_L77 at hm
      refine lv_iload_n hx hb dX4_closeReach_77 rfl (lv_at hl 0 rfl) ?_
      refine lv_bipush (v := (10 : Int32)) hx hb dX4_closeReach_78 (by decide) ?_
      refine lv_icmp_ge (tgt := 131) hx hb dX4_closeReach_80 (by decide) (fun hc => ?_) (fun hc => ?_)
      · have hm := if_t hc hm
        cases hm
        exact hE H locs ls hP hD hS (lv_sub hl [] rfl)
      · have hm := if_f hc hm
        refine lv_iconst (v := (0 : Int32)) hx hb dX4_closeReach_83 (by decide) ?_
        refine lv_istore_n (lv' := [(2, .int (0 : Int32)), (1, .int y1), (0, .ref t)]) hx hb dX4_closeReach_84 rfl hl (by decide) rfl (fun ls hl => ?_)
        obtain ⟨z18, hz18, hm⟩ := bd_at hm
        refine L85 y1 F (0 : Int32) c_t_reach z18 hz18 (fun H locs ls hP hD hS hl => ?_) H locs ls hP hD hS (lv_sub hl [0, 1, 2] rfl)
        obtain ⟨v19, ev19⟩ : ∃ y : Int32, y = y1 + (1 : Int32) := ⟨_, rfl⟩
        have hm := lt_at ev19 hm
        refine lv_iinc (v := v19) (lv' := [(1, .int v19), (0, .ref t)]) hx hb dX4_closeReach_125 hl (k := 0) rfl (by rw [ev19]; rfl) (by decide) rfl (fun ls hl => ?_)
        refine lv_goto (tgt := 77) hx hb dX4_closeReach_128 (by decide) ?_
        exact ih v19 z18 z hm hE H locs ls hP hD hS (lv_sub hl [0, 1] rfl)
  unfold M_Program_closeReach at hm
  obtain ⟨H, eH⟩ : ∃ H, H = s.heap := ⟨_, rfl⟩
  obtain ⟨locs, el⟩ : ∃ x : List Loc, x = [] := ⟨_, rfl⟩
  have hP : va_P D vwCl [(t, .inr (4, [.ref t_kind_a, .ref t_place_a, .ref t_who_a, .ref t_width_a, .ref t_term_a, .ref t_start_a, .int t_size, .int t_rules, .ref t_sort_a, .ref t_arity_a, .ref t_stratum_a, .ref t_reach_a])), (t_kind_a, .inl (cI, 240, .inl t_kind)), (t_who_a, .inl (cI, 240, .inl t_who)), (t_start_a, .inl (cI, 241, .inl t_start)), (t_reach_a, .inl (cI, 10, .inl t_reach))] H := eH ▸ hP
  have hS : va_S A s.heap H locs := by rw [eH, el]; exact hS
  suffices hW : W p l e { frames := 1, cells := 0, slots := 0, locals := 21 } s m args below meth c H locs 0 0 Q (F0 m 0 ls []) by rw [eH, el] at hW; exact hW
  clear eH el
  refine lv_iconst (v := (0 : Int32)) hx hb dX4_closeReach_0 (by decide) ?_
  refine lv_istore_n (lv' := [(1, .int (0 : Int32)), (0, .ref t)]) hx hb dX4_closeReach_1 rfl hl (by decide) rfl (fun ls hl => ?_)
  obtain ⟨z12, hz12, hm⟩ := bd_at hm
  refine L2  F (0 : Int32) t_reach z12 hz12 (fun H locs ls hP hD hS hl => ?_) H locs ls hP hD hS (lv_sub hl [0, 1] rfl)
  refine lv_iconst (v := (0 : Int32)) hx hb dX4_closeReach_75 (by decide) ?_
  refine lv_istore_n (lv' := [(1, .int (0 : Int32)), (0, .ref t)]) hx hb dX4_closeReach_76 rfl hl (by decide) rfl (fun ls hl => ?_)
  obtain ⟨z20, hz20, hm⟩ := bd_at hm
  refine L77  F (0 : Int32) z12 z20 hz20 (fun H locs ls hP hD hS hl => ?_) H locs ls hP hD hS (lv_sub hl [0, 1] rfl)
  have ho := Option.some.inj hm
  exact k_vret hx hb hr hlocks hK hP hD hS dX4_closeReach_131 hQ rfl (by rw [← ho])
noncomputable def M_Program_describePredicates_L2 (F : Nat) : Nat → Int32 → (Nat → Int32) → (Nat → Int32) → (Nat → Int32) → Option ((Nat → Int32) × (Nat → Int32) × (Nat → Int32))
  | 0, _, _, _, _ => none
  | n + 1, y1, c_t_sort, c_t_arity, c_t_reach => if (10 : Int32) ≤ y1 then (some (c_t_sort, c_t_arity, c_t_reach)) else (gd_ y1 10 <| lt_ (upd c_t_sort y1.toNatClampNeg (0 : Int32)) fun f1 => gd_ y1 10 <| lt_ (upd c_t_arity y1.toNatClampNeg (0 : Int32)) fun f2 => gd_ y1 10 <| lt_ (upd c_t_reach y1.toNatClampNeg ((1 : Int32) <<< (y1 &&& 31))) fun f3 => lt_ (y1 + (1 : Int32)) fun v4 => M_Program_describePredicates_L2 F n v4 f1 f2 f3)
noncomputable def M_Program_describePredicates_L39 (F : Nat) (t_kind : Nat → Int32) (t_who : Nat → Int32) (t_width : Nat → Int32) (t_size : Int32) : Nat → Int32 → (Nat → Int32) → (Nat → Int32) → Option ((Nat → Int32) × (Nat → Int32))
  | 0, _, _, _ => none
  | n + 1, y1, c_t_sort, c_t_arity => if t_size ≤ y1 then (some (c_t_sort, c_t_arity)) else (bd_ (M_Program_isAtom t_kind y1) fun z6 => if z6 = 0 then (lt_ (y1 + (1 : Int32)) fun v7 => M_Program_describePredicates_L39 F t_kind t_who t_width t_size n v7 c_t_sort c_t_arity) else (bd_ (M_Program_describeAtom t_kind t_who t_width c_t_sort c_t_arity y1) fun z8 => lt_ (y1 + (1 : Int32)) fun v9 => M_Program_describePredicates_L39 F t_kind t_who t_width t_size n v9 z8.1 z8.2))
noncomputable def M_Program_describePredicates (F : Nat) (t_kind : Nat → Int32) (t_who : Nat → Int32) (t_width : Nat → Int32) (t_start : Nat → Int32) (t_size : Int32) (t_rules : Int32) (t_sort : Nat → Int32) (t_arity : Nat → Int32) (t_reach : Nat → Int32) : Option ((Nat → Int32) × (Nat → Int32) × (Nat → Int32)) := bd_ (M_Program_describePredicates_L2 F F (0 : Int32) t_sort t_arity t_reach) fun z5 => bd_ (M_Program_describePredicates_L39 F t_kind t_who t_width t_size F (0 : Int32) z5.1 z5.2.1) fun z10 => bd_ (M_Program_closeReach F t_kind t_who t_start t_rules z5.2.2) fun z11 => some (z10.1, z10.2, z11)
set_option maxRecDepth 100000 in
set_option maxHeartbeats 4000000 in
theorem K_Program_describePredicates (l : Launch) (D : va_G) (cB cI cZ cJ : ClassId) (t : Nat) (t_kind_a : Nat) (t_place_a : Nat) (t_who_a : Nat) (t_width_a : Nat) (t_term_a : Nat) (t_start_a : Nat) (t_sort_a : Nat) (t_arity_a : Nat) (t_stratum_a : Nat) (t_reach_a : Nat) (t_size : Int32) (t_rules : Int32) (t_kind : Nat → Int32) (t_who : Nat → Int32) (t_width : Nat → Int32) (t_start : Nat → Int32) (t_sort : Nat → Int32) (t_arity : Nat → Int32) (t_reach : Nat → Int32) (F : Nat) (out : (Nat → Int32) × (Nat → Int32) × (Nat → Int32)) (hm : M_Program_describePredicates F t_kind t_who t_width t_start t_size t_rules t_sort t_arity t_reach = some out) : KC l yX4_describePredicates cX4_describePredicates 2 none { frames := 2, cells := 0, slots := 0, locals := 44 } D (kTy cB cI cZ cJ) [.ref t] [(t, .inr (4, [.ref t_kind_a, .ref t_place_a, .ref t_who_a, .ref t_width_a, .ref t_term_a, .ref t_start_a, .int t_size, .int t_rules, .ref t_sort_a, .ref t_arity_a, .ref t_stratum_a, .ref t_reach_a])), (t_kind_a, .inl (cI, 240, .inl t_kind)), (t_who_a, .inl (cI, 240, .inl t_who)), (t_width_a, .inl (cI, 240, .inl t_width)), (t_start_a, .inl (cI, 241, .inl t_start)), (t_sort_a, .inl (cI, 10, .inl t_sort)), (t_arity_a, .inl (cI, 10, .inl t_arity)), (t_reach_a, .inl (cI, 10, .inl t_reach))] none [(t, .inr (4, [.ref t_kind_a, .ref t_place_a, .ref t_who_a, .ref t_width_a, .ref t_term_a, .ref t_start_a, .int t_size, .int t_rules, .ref t_sort_a, .ref t_arity_a, .ref t_stratum_a, .ref t_reach_a])), (t_kind_a, .inl (cI, 240, .inl t_kind)), (t_who_a, .inl (cI, 240, .inl t_who)), (t_width_a, .inl (cI, 240, .inl t_width)), (t_start_a, .inl (cI, 241, .inl t_start)), (t_sort_a, .inl (cI, 10, .inl out.1)), (t_arity_a, .inl (cI, 10, .inl out.2.1)), (t_reach_a, .inl (cI, 10, .inl out.2.2))] := by
  refine KC.of (by decide +kernel) (Nat.le_of_ble_eq_true rfl) ?_
  intro p e s m below meth c A ls args Q hQ CX hA hK hP hD hl
  obtain ⟨hx, hb, hr, hml, hown, hts, hlocks⟩ := CX
  have hown : s.vm.findClass RX4 = some m.cls := hown
  have hS : va_S A s.heap s.heap [] := va_S.rf
  have hl : lv_has ls 2 [(0, .ref t)] := hl
  have L2 : ∀ (n : Nat) (y1 : Int32) (c_t_sort : Nat → Int32) (c_t_arity : Nat → Int32) (c_t_reach : Nat → Int32) (z : ((Nat → Int32) × (Nat → Int32) × (Nat → Int32))), M_Program_describePredicates_L2 F n y1 c_t_sort c_t_arity c_t_reach = some z →
      (∀ (H : Heap) (locs : List Loc) (ls : Array Slot), va_P D vwCl [(t, .inr (4, [.ref t_kind_a, .ref t_place_a, .ref t_who_a, .ref t_width_a, .ref t_term_a, .ref t_start_a, .int t_size, .int t_rules, .ref t_sort_a, .ref t_arity_a, .ref t_stratum_a, .ref t_reach_a])), (t_kind_a, .inl (cI, 240, .inl t_kind)), (t_who_a, .inl (cI, 240, .inl t_who)), (t_width_a, .inl (cI, 240, .inl t_width)), (t_start_a, .inl (cI, 241, .inl t_start)), (t_sort_a, .inl (cI, 10, .inl z.1)), (t_arity_a, .inl (cI, 10, .inl z.2.1)), (t_reach_a, .inl (cI, 10, .inl z.2.2))] H → va_D A [(t, .inr (4, [.ref t_kind_a, .ref t_place_a, .ref t_who_a, .ref t_width_a, .ref t_term_a, .ref t_start_a, .int t_size, .int t_rules, .ref t_sort_a, .ref t_arity_a, .ref t_stratum_a, .ref t_reach_a])), (t_kind_a, .inl (cI, 240, .inl t_kind)), (t_who_a, .inl (cI, 240, .inl t_who)), (t_width_a, .inl (cI, 240, .inl t_width)), (t_start_a, .inl (cI, 241, .inl t_start)), (t_sort_a, .inl (cI, 10, .inl z.1)), (t_arity_a, .inl (cI, 10, .inl z.2.1)), (t_reach_a, .inl (cI, 10, .inl z.2.2))] → va_S A s.heap H locs → lv_has ls 2 [(0, .ref t)] → W p l e { frames := 2, cells := 0, slots := 0, locals := 44 } s m args below meth c H locs 0 0 Q (F0 m 37 ls [])) →
      ∀ (H : Heap) (locs : List Loc) (ls : Array Slot), va_P D vwCl [(t, .inr (4, [.ref t_kind_a, .ref t_place_a, .ref t_who_a, .ref t_width_a, .ref t_term_a, .ref t_start_a, .int t_size, .int t_rules, .ref t_sort_a, .ref t_arity_a, .ref t_stratum_a, .ref t_reach_a])), (t_kind_a, .inl (cI, 240, .inl t_kind)), (t_who_a, .inl (cI, 240, .inl t_who)), (t_width_a, .inl (cI, 240, .inl t_width)), (t_start_a, .inl (cI, 241, .inl t_start)), (t_sort_a, .inl (cI, 10, .inl c_t_sort)), (t_arity_a, .inl (cI, 10, .inl c_t_arity)), (t_reach_a, .inl (cI, 10, .inl c_t_reach))] H → va_D A [(t, .inr (4, [.ref t_kind_a, .ref t_place_a, .ref t_who_a, .ref t_width_a, .ref t_term_a, .ref t_start_a, .int t_size, .int t_rules, .ref t_sort_a, .ref t_arity_a, .ref t_stratum_a, .ref t_reach_a])), (t_kind_a, .inl (cI, 240, .inl t_kind)), (t_who_a, .inl (cI, 240, .inl t_who)), (t_width_a, .inl (cI, 240, .inl t_width)), (t_start_a, .inl (cI, 241, .inl t_start)), (t_sort_a, .inl (cI, 10, .inl c_t_sort)), (t_arity_a, .inl (cI, 10, .inl c_t_arity)), (t_reach_a, .inl (cI, 10, .inl c_t_reach))] → va_S A s.heap H locs → lv_has ls 2 [(1, .int y1), (0, .ref t)] → W p l e { frames := 2, cells := 0, slots := 0, locals := 44 } s m args below meth c H locs 0 0 Q (F0 m 2 ls []) := by
    intro  n
    induction n with
    | zero => intro y1 c_t_sort c_t_arity c_t_reach z hm; unfold M_Program_describePredicates_L2 at hm; cases hm
    | succ n ih =>
      intro y1 c_t_sort c_t_arity c_t_reach z hm hE H locs ls hP hD hS hl
      unfold M_Program_describePredicates_L2 at hm
      refine lv_iload_n hx hb dX4_describePredicates_2 rfl (lv_at hl 0 rfl) ?_
      refine lv_bipush (v := (10 : Int32)) hx hb dX4_describePredicates_3 (by decide) ?_
      refine lv_icmp_ge (tgt := 37) hx hb dX4_describePredicates_5 (by decide) (fun hc => ?_) (fun hc => ?_)
      · have hm := if_t hc hm
        cases hm
        exact hE H locs ls hP hD hS (lv_sub hl [1] rfl)
      · have hm := if_f hc hm
        refine lv_aload_n hx hb dX4_describePredicates_8 rfl (lv_at hl 1 rfl) ?_
        refine va_get (D := D) (ci := 4) (v := .ref t_sort_a) (C := RX4) (T := TX4) (N := 12) hx hb hts in_X4 hown hK hP 0 rfl rfl 8 (by decide) (hts _ kf_X4_39) (fun _ h9 => h9) rfl dX4_describePredicates_9 ?_
        refine lv_iload_n hx hb dX4_describePredicates_12 rfl (lv_at hl 0 rfl) ?_
        refine lv_iconst (v := (0 : Int32)) hx hb dX4_describePredicates_13 (by decide) ?_
        refine k_iast hx hb hK hP hD hS 5 1 rfl rfl (gd_in hm) dX4_describePredicates_14 (fun f1 ef1 H locs hP hD hS => ?_)
        have hm := lt_at ef1 (gd_go hm)
        have hP : va_P D vwCl [(t, .inr (4, [.ref t_kind_a, .ref t_place_a, .ref t_who_a, .ref t_width_a, .ref t_term_a, .ref t_start_a, .int t_size, .int t_rules, .ref t_sort_a, .ref t_arity_a, .ref t_stratum_a, .ref t_reach_a])), (t_kind_a, .inl (cI, 240, .inl t_kind)), (t_who_a, .inl (cI, 240, .inl t_who)), (t_width_a, .inl (cI, 240, .inl t_width)), (t_start_a, .inl (cI, 241, .inl t_start)), (t_sort_a, .inl (cI, 10, .inl f1)), (t_arity_a, .inl (cI, 10, .inl c_t_arity)), (t_reach_a, .inl (cI, 10, .inl c_t_reach))] H := hP
        have hD : va_D A [(t, .inr (4, [.ref t_kind_a, .ref t_place_a, .ref t_who_a, .ref t_width_a, .ref t_term_a, .ref t_start_a, .int t_size, .int t_rules, .ref t_sort_a, .ref t_arity_a, .ref t_stratum_a, .ref t_reach_a])), (t_kind_a, .inl (cI, 240, .inl t_kind)), (t_who_a, .inl (cI, 240, .inl t_who)), (t_width_a, .inl (cI, 240, .inl t_width)), (t_start_a, .inl (cI, 241, .inl t_start)), (t_sort_a, .inl (cI, 10, .inl f1)), (t_arity_a, .inl (cI, 10, .inl c_t_arity)), (t_reach_a, .inl (cI, 10, .inl c_t_reach))] := hD
        refine lv_aload_n hx hb dX4_describePredicates_15 rfl (lv_at hl 1 rfl) ?_
        refine va_get (D := D) (ci := 4) (v := .ref t_arity_a) (C := RX4) (T := TX4) (N := 12) hx hb hts in_X4 hown hK hP 0 rfl rfl 9 (by decide) (hts _ kf_X4_42) (fun _ h9 => h9) rfl dX4_describePredicates_16 ?_
        refine lv_iload_n hx hb dX4_describePredicates_19 rfl (lv_at hl 0 rfl) ?_
        refine lv_iconst (v := (0 : Int32)) hx hb dX4_describePredicates_20 (by decide) ?_
        refine k_iast hx hb hK hP hD hS 6 1 rfl rfl (gd_in hm) dX4_describePredicates_21 (fun f2 ef2 H locs hP hD hS => ?_)
        have hm := lt_at ef2 (gd_go hm)
        have hP : va_P D vwCl [(t, .inr (4, [.ref t_kind_a, .ref t_place_a, .ref t_who_a, .ref t_width_a, .ref t_term_a, .ref t_start_a, .int t_size, .int t_rules, .ref t_sort_a, .ref t_arity_a, .ref t_stratum_a, .ref t_reach_a])), (t_kind_a, .inl (cI, 240, .inl t_kind)), (t_who_a, .inl (cI, 240, .inl t_who)), (t_width_a, .inl (cI, 240, .inl t_width)), (t_start_a, .inl (cI, 241, .inl t_start)), (t_sort_a, .inl (cI, 10, .inl f1)), (t_arity_a, .inl (cI, 10, .inl f2)), (t_reach_a, .inl (cI, 10, .inl c_t_reach))] H := hP
        have hD : va_D A [(t, .inr (4, [.ref t_kind_a, .ref t_place_a, .ref t_who_a, .ref t_width_a, .ref t_term_a, .ref t_start_a, .int t_size, .int t_rules, .ref t_sort_a, .ref t_arity_a, .ref t_stratum_a, .ref t_reach_a])), (t_kind_a, .inl (cI, 240, .inl t_kind)), (t_who_a, .inl (cI, 240, .inl t_who)), (t_width_a, .inl (cI, 240, .inl t_width)), (t_start_a, .inl (cI, 241, .inl t_start)), (t_sort_a, .inl (cI, 10, .inl f1)), (t_arity_a, .inl (cI, 10, .inl f2)), (t_reach_a, .inl (cI, 10, .inl c_t_reach))] := hD
        refine lv_aload_n hx hb dX4_describePredicates_22 rfl (lv_at hl 1 rfl) ?_
        refine va_get (D := D) (ci := 4) (v := .ref t_reach_a) (C := RX4) (T := TX4) (N := 12) hx hb hts in_X4 hown hK hP 0 rfl rfl 11 (by decide) (hts _ kf_X4_48) (fun _ h9 => h9) rfl dX4_describePredicates_23 ?_
        refine lv_iload_n hx hb dX4_describePredicates_26 rfl (lv_at hl 0 rfl) ?_
        refine lv_iconst (v := (1 : Int32)) hx hb dX4_describePredicates_27 (by decide) ?_
        refine lv_iload_n hx hb dX4_describePredicates_28 rfl (lv_at hl 0 rfl) ?_
        refine lv_ishl hx hb dX4_describePredicates_29 ?_
        refine k_iast hx hb hK hP hD hS 7 1 rfl rfl (gd_in hm) dX4_describePredicates_30 (fun f3 ef3 H locs hP hD hS => ?_)
        have hm := lt_at ef3 (gd_go hm)
        have hP : va_P D vwCl [(t, .inr (4, [.ref t_kind_a, .ref t_place_a, .ref t_who_a, .ref t_width_a, .ref t_term_a, .ref t_start_a, .int t_size, .int t_rules, .ref t_sort_a, .ref t_arity_a, .ref t_stratum_a, .ref t_reach_a])), (t_kind_a, .inl (cI, 240, .inl t_kind)), (t_who_a, .inl (cI, 240, .inl t_who)), (t_width_a, .inl (cI, 240, .inl t_width)), (t_start_a, .inl (cI, 241, .inl t_start)), (t_sort_a, .inl (cI, 10, .inl f1)), (t_arity_a, .inl (cI, 10, .inl f2)), (t_reach_a, .inl (cI, 10, .inl f3))] H := hP
        have hD : va_D A [(t, .inr (4, [.ref t_kind_a, .ref t_place_a, .ref t_who_a, .ref t_width_a, .ref t_term_a, .ref t_start_a, .int t_size, .int t_rules, .ref t_sort_a, .ref t_arity_a, .ref t_stratum_a, .ref t_reach_a])), (t_kind_a, .inl (cI, 240, .inl t_kind)), (t_who_a, .inl (cI, 240, .inl t_who)), (t_width_a, .inl (cI, 240, .inl t_width)), (t_start_a, .inl (cI, 241, .inl t_start)), (t_sort_a, .inl (cI, 10, .inl f1)), (t_arity_a, .inl (cI, 10, .inl f2)), (t_reach_a, .inl (cI, 10, .inl f3))] := hD
        obtain ⟨v4, ev4⟩ : ∃ y : Int32, y = y1 + (1 : Int32) := ⟨_, rfl⟩
        have hm := lt_at ev4 hm
        refine lv_iinc (v := v4) (lv' := [(1, .int v4), (0, .ref t)]) hx hb dX4_describePredicates_31 hl (k := 0) rfl (by rw [ev4]; rfl) (by decide) rfl (fun ls hl => ?_)
        refine lv_goto (tgt := 2) hx hb dX4_describePredicates_34 (by decide) ?_
        exact ih v4 f1 f2 f3 z hm hE H locs ls hP hD hS (lv_sub hl [0, 1] rfl)
  have L39 : ∀ (c_t_reach : Nat → Int32) (n : Nat) (y1 : Int32) (c_t_sort : Nat → Int32) (c_t_arity : Nat → Int32) (z : ((Nat → Int32) × (Nat → Int32))), M_Program_describePredicates_L39 F t_kind t_who t_width t_size n y1 c_t_sort c_t_arity = some z →
      (∀ (H : Heap) (locs : List Loc) (ls : Array Slot), va_P D vwCl [(t, .inr (4, [.ref t_kind_a, .ref t_place_a, .ref t_who_a, .ref t_width_a, .ref t_term_a, .ref t_start_a, .int t_size, .int t_rules, .ref t_sort_a, .ref t_arity_a, .ref t_stratum_a, .ref t_reach_a])), (t_kind_a, .inl (cI, 240, .inl t_kind)), (t_who_a, .inl (cI, 240, .inl t_who)), (t_width_a, .inl (cI, 240, .inl t_width)), (t_start_a, .inl (cI, 241, .inl t_start)), (t_sort_a, .inl (cI, 10, .inl z.1)), (t_arity_a, .inl (cI, 10, .inl z.2)), (t_reach_a, .inl (cI, 10, .inl c_t_reach))] H → va_D A [(t, .inr (4, [.ref t_kind_a, .ref t_place_a, .ref t_who_a, .ref t_width_a, .ref t_term_a, .ref t_start_a, .int t_size, .int t_rules, .ref t_sort_a, .ref t_arity_a, .ref t_stratum_a, .ref t_reach_a])), (t_kind_a, .inl (cI, 240, .inl t_kind)), (t_who_a, .inl (cI, 240, .inl t_who)), (t_width_a, .inl (cI, 240, .inl t_width)), (t_start_a, .inl (cI, 241, .inl t_start)), (t_sort_a, .inl (cI, 10, .inl z.1)), (t_arity_a, .inl (cI, 10, .inl z.2)), (t_reach_a, .inl (cI, 10, .inl c_t_reach))] → va_S A s.heap H locs → lv_has ls 2 [(0, .ref t)] → W p l e { frames := 2, cells := 0, slots := 0, locals := 44 } s m args below meth c H locs 0 0 Q (F0 m 66 ls [])) →
      ∀ (H : Heap) (locs : List Loc) (ls : Array Slot), va_P D vwCl [(t, .inr (4, [.ref t_kind_a, .ref t_place_a, .ref t_who_a, .ref t_width_a, .ref t_term_a, .ref t_start_a, .int t_size, .int t_rules, .ref t_sort_a, .ref t_arity_a, .ref t_stratum_a, .ref t_reach_a])), (t_kind_a, .inl (cI, 240, .inl t_kind)), (t_who_a, .inl (cI, 240, .inl t_who)), (t_width_a, .inl (cI, 240, .inl t_width)), (t_start_a, .inl (cI, 241, .inl t_start)), (t_sort_a, .inl (cI, 10, .inl c_t_sort)), (t_arity_a, .inl (cI, 10, .inl c_t_arity)), (t_reach_a, .inl (cI, 10, .inl c_t_reach))] H → va_D A [(t, .inr (4, [.ref t_kind_a, .ref t_place_a, .ref t_who_a, .ref t_width_a, .ref t_term_a, .ref t_start_a, .int t_size, .int t_rules, .ref t_sort_a, .ref t_arity_a, .ref t_stratum_a, .ref t_reach_a])), (t_kind_a, .inl (cI, 240, .inl t_kind)), (t_who_a, .inl (cI, 240, .inl t_who)), (t_width_a, .inl (cI, 240, .inl t_width)), (t_start_a, .inl (cI, 241, .inl t_start)), (t_sort_a, .inl (cI, 10, .inl c_t_sort)), (t_arity_a, .inl (cI, 10, .inl c_t_arity)), (t_reach_a, .inl (cI, 10, .inl c_t_reach))] → va_S A s.heap H locs → lv_has ls 2 [(1, .int y1), (0, .ref t)] → W p l e { frames := 2, cells := 0, slots := 0, locals := 44 } s m args below meth c H locs 0 0 Q (F0 m 39 ls []) := by
    intro c_t_reach n
    induction n with
    | zero => intro y1 c_t_sort c_t_arity z hm; unfold M_Program_describePredicates_L39 at hm; cases hm
    | succ n ih =>
      intro y1 c_t_sort c_t_arity z hm hE H locs ls hP hD hS hl
      unfold M_Program_describePredicates_L39 at hm
      refine lv_iload_n hx hb dX4_describePredicates_39 rfl (lv_at hl 0 rfl) ?_
      refine lv_aload_n hx hb dX4_describePredicates_40 rfl (lv_at hl 1 rfl) ?_
      refine va_get (D := D) (ci := 4) (v := .int t_size) (C := RX4) (T := TX4) (N := 12) hx hb hts in_X4 hown hK hP 0 rfl rfl 6 (by decide) (hts _ kf_X4_32) (fun _ h9 => h9) rfl dX4_describePredicates_41 ?_
      refine lv_icmp_ge (tgt := 66) hx hb dX4_describePredicates_44 (by decide) (fun hc => ?_) (fun hc => ?_)
      · have hm := if_t hc hm
        cases hm
        exact hE H locs ls hP hD hS (lv_sub hl [1] rfl)
      · have hm := if_f hc hm
        refine lv_aload_n hx hb dX4_describePredicates_47 rfl (lv_at hl 1 rfl) ?_
        refine lv_iload_n hx hb dX4_describePredicates_48 rfl (lv_at hl 0 rfl) ?_
        obtain ⟨z6, hz6, hm⟩ := bd_at hm
        refine k_callV (As := [.int y1]) (rest := []) (wr := [(t_who_a, .inl (cI, 240, .inl t_who)), (t_width_a, .inl (cI, 240, .inl t_width)), (t_start_a, .inl (cI, 241, .inl t_start)), (t_sort_a, .inl (cI, 10, .inl c_t_sort)), (t_arity_a, .inl (cI, 10, .inl c_t_arity)), (t_reach_a, .inl (cI, 10, .inl c_t_reach))]) (ws1 := [(t, .inr (4, [.ref t_kind_a, .ref t_place_a, .ref t_who_a, .ref t_width_a, .ref t_term_a, .ref t_start_a, .int t_size, .int t_rules, .ref t_sort_a, .ref t_arity_a, .ref t_stratum_a, .ref t_reach_a])), (t_kind_a, .inl (cI, 240, .inl t_kind)), (t_who_a, .inl (cI, 240, .inl t_who)), (t_width_a, .inl (cI, 240, .inl t_width)), (t_start_a, .inl (cI, 241, .inl t_start)), (t_sort_a, .inl (cI, 10, .inl c_t_sort)), (t_arity_a, .inl (cI, 10, .inl c_t_arity)), (t_reach_a, .inl (cI, 10, .inl c_t_reach))]) [0, 1] [2, 3, 4, 5, 6, 7] [6, 7, 0, 1, 2, 3, 4, 5] (K_Program_isAtom l D cB cI cZ cJ t t_kind_a t_place_a t_who_a t_width_a t_term_a t_start_a t_sort_a t_arity_a t_stratum_a t_reach_a t_size t_rules t_kind y1 z6 hz6) mf_X4_isAtom km_X4_51 hx hb hml hown hts hK hP hD hS hA hl.1 ⟨Nat.zero_le _, Nat.zero_le _⟩ dX4_describePredicates_49 rfl rfl (Nat.le_of_ble_eq_true rfl) ⟨⟨rfl, rfl⟩, Nat.le_of_ble_eq_true rfl, Nat.le_of_ble_eq_true rfl⟩ rfl rfl (by decide) rfl rfl rfl rfl (fun H locs hP hD hS => ?_)
        have hP : va_P D vwCl [(t, .inr (4, [.ref t_kind_a, .ref t_place_a, .ref t_who_a, .ref t_width_a, .ref t_term_a, .ref t_start_a, .int t_size, .int t_rules, .ref t_sort_a, .ref t_arity_a, .ref t_stratum_a, .ref t_reach_a])), (t_kind_a, .inl (cI, 240, .inl t_kind)), (t_who_a, .inl (cI, 240, .inl t_who)), (t_width_a, .inl (cI, 240, .inl t_width)), (t_start_a, .inl (cI, 241, .inl t_start)), (t_sort_a, .inl (cI, 10, .inl c_t_sort)), (t_arity_a, .inl (cI, 10, .inl c_t_arity)), (t_reach_a, .inl (cI, 10, .inl c_t_reach))] H := hP
        have hD : va_D A [(t, .inr (4, [.ref t_kind_a, .ref t_place_a, .ref t_who_a, .ref t_width_a, .ref t_term_a, .ref t_start_a, .int t_size, .int t_rules, .ref t_sort_a, .ref t_arity_a, .ref t_stratum_a, .ref t_reach_a])), (t_kind_a, .inl (cI, 240, .inl t_kind)), (t_who_a, .inl (cI, 240, .inl t_who)), (t_width_a, .inl (cI, 240, .inl t_width)), (t_start_a, .inl (cI, 241, .inl t_start)), (t_sort_a, .inl (cI, 10, .inl c_t_sort)), (t_arity_a, .inl (cI, 10, .inl c_t_arity)), (t_reach_a, .inl (cI, 10, .inl c_t_reach))] := hD
        refine lv_if_eq (tgt := 60) hx hb dX4_describePredicates_52 (by decide) (fun hc => ?_) (fun hc => ?_)
        · have hm := if_t hc hm
          obtain ⟨v7, ev7⟩ : ∃ y : Int32, y = y1 + (1 : Int32) := ⟨_, rfl⟩
          have hm := lt_at ev7 hm
          refine lv_iinc (v := v7) (lv' := [(1, .int v7), (0, .ref t)]) hx hb dX4_describePredicates_60 hl (k := 0) rfl (by rw [ev7]; rfl) (by decide) rfl (fun ls hl => ?_)
          refine lv_goto (tgt := 39) hx hb dX4_describePredicates_63 (by decide) ?_
          exact ih v7 c_t_sort c_t_arity z hm hE H locs ls hP hD hS (lv_sub hl [0, 1] rfl)
        · have hm := if_f hc hm
          refine lv_aload_n hx hb dX4_describePredicates_55 rfl (lv_at hl 1 rfl) ?_
          refine lv_iload_n hx hb dX4_describePredicates_56 rfl (lv_at hl 0 rfl) ?_
          obtain ⟨z8, hz8, hm⟩ := bd_at hm
          refine k_callV (As := [.int y1]) (rest := []) (wr := [(t_start_a, .inl (cI, 241, .inl t_start)), (t_reach_a, .inl (cI, 10, .inl c_t_reach))]) (ws1 := [(t, .inr (4, [.ref t_kind_a, .ref t_place_a, .ref t_who_a, .ref t_width_a, .ref t_term_a, .ref t_start_a, .int t_size, .int t_rules, .ref t_sort_a, .ref t_arity_a, .ref t_stratum_a, .ref t_reach_a])), (t_kind_a, .inl (cI, 240, .inl t_kind)), (t_who_a, .inl (cI, 240, .inl t_who)), (t_width_a, .inl (cI, 240, .inl t_width)), (t_start_a, .inl (cI, 241, .inl t_start)), (t_sort_a, .inl (cI, 10, .inl z8.1)), (t_arity_a, .inl (cI, 10, .inl z8.2)), (t_reach_a, .inl (cI, 10, .inl c_t_reach))]) [0, 1, 2, 3, 5, 6] [4, 7] [2, 3, 4, 5, 0, 6, 7, 1] (K_Program_describeAtom l D cB cI cZ cJ t t_kind_a t_place_a t_who_a t_width_a t_term_a t_start_a t_sort_a t_arity_a t_stratum_a t_reach_a t_size t_rules t_kind t_who t_width c_t_sort c_t_arity y1 z8 hz8) mf_X4_describeAtom km_X4_55 hx hb hml hown hts hK hP hD hS hA hl.1 ⟨Nat.zero_le _, Nat.zero_le _⟩ dX4_describePredicates_57 rfl rfl (Nat.le_of_ble_eq_true rfl) ⟨⟨rfl, rfl⟩, Nat.le_of_ble_eq_true rfl, Nat.le_of_ble_eq_true rfl⟩ rfl rfl (by decide) rfl rfl rfl rfl (fun H locs hP hD hS => ?_)
          have hP : va_P D vwCl [(t, .inr (4, [.ref t_kind_a, .ref t_place_a, .ref t_who_a, .ref t_width_a, .ref t_term_a, .ref t_start_a, .int t_size, .int t_rules, .ref t_sort_a, .ref t_arity_a, .ref t_stratum_a, .ref t_reach_a])), (t_kind_a, .inl (cI, 240, .inl t_kind)), (t_who_a, .inl (cI, 240, .inl t_who)), (t_width_a, .inl (cI, 240, .inl t_width)), (t_start_a, .inl (cI, 241, .inl t_start)), (t_sort_a, .inl (cI, 10, .inl z8.1)), (t_arity_a, .inl (cI, 10, .inl z8.2)), (t_reach_a, .inl (cI, 10, .inl c_t_reach))] H := hP
          have hD : va_D A [(t, .inr (4, [.ref t_kind_a, .ref t_place_a, .ref t_who_a, .ref t_width_a, .ref t_term_a, .ref t_start_a, .int t_size, .int t_rules, .ref t_sort_a, .ref t_arity_a, .ref t_stratum_a, .ref t_reach_a])), (t_kind_a, .inl (cI, 240, .inl t_kind)), (t_who_a, .inl (cI, 240, .inl t_who)), (t_width_a, .inl (cI, 240, .inl t_width)), (t_start_a, .inl (cI, 241, .inl t_start)), (t_sort_a, .inl (cI, 10, .inl z8.1)), (t_arity_a, .inl (cI, 10, .inl z8.2)), (t_reach_a, .inl (cI, 10, .inl c_t_reach))] := hD
          obtain ⟨v9, ev9⟩ : ∃ y : Int32, y = y1 + (1 : Int32) := ⟨_, rfl⟩
          have hm := lt_at ev9 hm
          refine lv_iinc (v := v9) (lv' := [(1, .int v9), (0, .ref t)]) hx hb dX4_describePredicates_60 hl (k := 0) rfl (by rw [ev9]; rfl) (by decide) rfl (fun ls hl => ?_)
          refine lv_goto (tgt := 39) hx hb dX4_describePredicates_63 (by decide) ?_
          exact ih v9 z8.1 z8.2 z hm hE H locs ls hP hD hS (lv_sub hl [0, 1] rfl)
  unfold M_Program_describePredicates at hm
  obtain ⟨H, eH⟩ : ∃ H, H = s.heap := ⟨_, rfl⟩
  obtain ⟨locs, el⟩ : ∃ x : List Loc, x = [] := ⟨_, rfl⟩
  have hP : va_P D vwCl [(t, .inr (4, [.ref t_kind_a, .ref t_place_a, .ref t_who_a, .ref t_width_a, .ref t_term_a, .ref t_start_a, .int t_size, .int t_rules, .ref t_sort_a, .ref t_arity_a, .ref t_stratum_a, .ref t_reach_a])), (t_kind_a, .inl (cI, 240, .inl t_kind)), (t_who_a, .inl (cI, 240, .inl t_who)), (t_width_a, .inl (cI, 240, .inl t_width)), (t_start_a, .inl (cI, 241, .inl t_start)), (t_sort_a, .inl (cI, 10, .inl t_sort)), (t_arity_a, .inl (cI, 10, .inl t_arity)), (t_reach_a, .inl (cI, 10, .inl t_reach))] H := eH ▸ hP
  have hS : va_S A s.heap H locs := by rw [eH, el]; exact hS
  suffices hW : W p l e { frames := 2, cells := 0, slots := 0, locals := 44 } s m args below meth c H locs 0 0 Q (F0 m 0 ls []) by rw [eH, el] at hW; exact hW
  clear eH el
  refine lv_iconst (v := (0 : Int32)) hx hb dX4_describePredicates_0 (by decide) ?_
  refine lv_istore_n (lv' := [(1, .int (0 : Int32)), (0, .ref t)]) hx hb dX4_describePredicates_1 rfl hl (by decide) rfl (fun ls hl => ?_)
  obtain ⟨z5, hz5, hm⟩ := bd_at hm
  refine L2  F (0 : Int32) t_sort t_arity t_reach z5 hz5 (fun H locs ls hP hD hS hl => ?_) H locs ls hP hD hS (lv_sub hl [0, 1] rfl)
  refine lv_iconst (v := (0 : Int32)) hx hb dX4_describePredicates_37 (by decide) ?_
  refine lv_istore_n (lv' := [(1, .int (0 : Int32)), (0, .ref t)]) hx hb dX4_describePredicates_38 rfl hl (by decide) rfl (fun ls hl => ?_)
  obtain ⟨z10, hz10, hm⟩ := bd_at hm
  refine L39 z5.2.2 F (0 : Int32) z5.1 z5.2.1 z10 hz10 (fun H locs ls hP hD hS hl => ?_) H locs ls hP hD hS (lv_sub hl [0, 1] rfl)
  refine lv_aload_n hx hb dX4_describePredicates_66 rfl (lv_at hl 0 rfl) ?_
  obtain ⟨z11, hz11, hm⟩ := bd_at hm
  refine k_callV (As := []) (rest := []) (wr := [(t_width_a, .inl (cI, 240, .inl t_width)), (t_sort_a, .inl (cI, 10, .inl z10.1)), (t_arity_a, .inl (cI, 10, .inl z10.2))]) (ws1 := [(t, .inr (4, [.ref t_kind_a, .ref t_place_a, .ref t_who_a, .ref t_width_a, .ref t_term_a, .ref t_start_a, .int t_size, .int t_rules, .ref t_sort_a, .ref t_arity_a, .ref t_stratum_a, .ref t_reach_a])), (t_kind_a, .inl (cI, 240, .inl t_kind)), (t_who_a, .inl (cI, 240, .inl t_who)), (t_width_a, .inl (cI, 240, .inl t_width)), (t_start_a, .inl (cI, 241, .inl t_start)), (t_sort_a, .inl (cI, 10, .inl z10.1)), (t_arity_a, .inl (cI, 10, .inl z10.2)), (t_reach_a, .inl (cI, 10, .inl z11))]) [0, 1, 2, 4, 7] [3, 5, 6] [3, 4, 5, 0, 6, 1, 2, 7] (K_Program_closeReach l D cB cI cZ cJ t t_kind_a t_place_a t_who_a t_width_a t_term_a t_start_a t_sort_a t_arity_a t_stratum_a t_reach_a t_size t_rules t_kind t_who t_start z5.2.2 F z11 hz11) mf_X4_closeReach km_X4_59 hx hb hml hown hts hK hP hD hS hA hl.1 ⟨Nat.zero_le _, Nat.zero_le _⟩ dX4_describePredicates_67 rfl rfl (Nat.le_of_ble_eq_true rfl) ⟨⟨rfl, rfl⟩, Nat.le_of_ble_eq_true rfl, Nat.le_of_ble_eq_true rfl⟩ rfl rfl (by decide) rfl rfl rfl rfl (fun H locs hP hD hS => ?_)
  have hP : va_P D vwCl [(t, .inr (4, [.ref t_kind_a, .ref t_place_a, .ref t_who_a, .ref t_width_a, .ref t_term_a, .ref t_start_a, .int t_size, .int t_rules, .ref t_sort_a, .ref t_arity_a, .ref t_stratum_a, .ref t_reach_a])), (t_kind_a, .inl (cI, 240, .inl t_kind)), (t_who_a, .inl (cI, 240, .inl t_who)), (t_width_a, .inl (cI, 240, .inl t_width)), (t_start_a, .inl (cI, 241, .inl t_start)), (t_sort_a, .inl (cI, 10, .inl z10.1)), (t_arity_a, .inl (cI, 10, .inl z10.2)), (t_reach_a, .inl (cI, 10, .inl z11))] H := hP
  have hD : va_D A [(t, .inr (4, [.ref t_kind_a, .ref t_place_a, .ref t_who_a, .ref t_width_a, .ref t_term_a, .ref t_start_a, .int t_size, .int t_rules, .ref t_sort_a, .ref t_arity_a, .ref t_stratum_a, .ref t_reach_a])), (t_kind_a, .inl (cI, 240, .inl t_kind)), (t_who_a, .inl (cI, 240, .inl t_who)), (t_width_a, .inl (cI, 240, .inl t_width)), (t_start_a, .inl (cI, 241, .inl t_start)), (t_sort_a, .inl (cI, 10, .inl z10.1)), (t_arity_a, .inl (cI, 10, .inl z10.2)), (t_reach_a, .inl (cI, 10, .inl z11))] := hD
  have ho := Option.some.inj hm
  exact k_vret hx hb hr hlocks hK hP hD hS dX4_describePredicates_70 hQ rfl (by rw [← ho])
noncomputable def M_Program_raiseHead_L21 (F : Nat) (t_kind : Nat → Int32) (t_who : Nat → Int32) (t_start : Nat → Int32) (w2 : Int32) (w1 : Int32) : Nat → Int32 → (Nat → Int32) → Option ((Nat → Int32))
  | 0, _, _ => none
  | n + 1, y3, c_t_stratum => gd_ (w1 + (1 : Int32)) 241 <| lt_ ((t_start (w1 + (1 : Int32)).toNatClampNeg)) fun v3 => if v3 ≤ y3 then (some c_t_stratum) else (bd_ (M_Program_isAtom t_kind y3) fun z4 => if z4 = 0 then (lt_ (y3 + (1 : Int32)) fun v5 => M_Program_raiseHead_L21 F t_kind t_who t_start w2 w1 n v5 c_t_stratum) else (gd_ y3 240 <| gd_ (t_who y3.toNatClampNeg) 10 <| lt_ ((c_t_stratum (t_who y3.toNatClampNeg).toNatClampNeg)) fun v6 => gd_ y3 240 <| if (t_kind y3.toNatClampNeg) = (2 : Int32) then (lt_ ((v6 + (1 : Int32))) fun v11 => gd_ w2 10 <| lt_ ((if (c_t_stratum w2.toNatClampNeg) < v11 then v11 else (c_t_stratum w2.toNatClampNeg))) fun v12 => gd_ w2 10 <| lt_ (upd c_t_stratum w2.toNatClampNeg v12) fun f13 => lt_ (y3 + (1 : Int32)) fun v14 => M_Program_raiseHead_L21 F t_kind t_who t_start w2 w1 n v14 f13) else (lt_ ((v6 + (0 : Int32))) fun v7 => gd_ w2 10 <| lt_ ((if (c_t_stratum w2.toNatClampNeg) < v7 then v7 else (c_t_stratum w2.toNatClampNeg))) fun v8 => gd_ w2 10 <| lt_ (upd c_t_stratum w2.toNatClampNeg v8) fun f9 => lt_ (y3 + (1 : Int32)) fun v10 => M_Program_raiseHead_L21 F t_kind t_who t_start w2 w1 n v10 f9)))
noncomputable def M_Program_raiseHead (F : Nat) (t_kind : Nat → Int32) (t_who : Nat → Int32) (t_start : Nat → Int32) (t_stratum : Nat → Int32) (x0 : Int32) : Option ((Nat → Int32)) := gd_ x0 241 <| gd_ (t_start x0.toNatClampNeg) 240 <| lt_ ((t_who (t_start x0.toNatClampNeg).toNatClampNeg)) fun v1 => gd_ x0 241 <| lt_ (((t_start x0.toNatClampNeg) + (1 : Int32))) fun v2 => bd_ (M_Program_raiseHead_L21 F t_kind t_who t_start v1 x0 F v2 t_stratum) fun z15 => some z15
set_option maxRecDepth 100000 in
set_option maxHeartbeats 4000000 in
theorem K_Program_raiseHead (l : Launch) (D : va_G) (cB cI cZ cJ : ClassId) (t : Nat) (t_kind_a : Nat) (t_place_a : Nat) (t_who_a : Nat) (t_width_a : Nat) (t_term_a : Nat) (t_start_a : Nat) (t_sort_a : Nat) (t_arity_a : Nat) (t_stratum_a : Nat) (t_reach_a : Nat) (t_size : Int32) (t_rules : Int32) (t_kind : Nat → Int32) (t_who : Nat → Int32) (t_start : Nat → Int32) (t_stratum : Nat → Int32) (x0 : Int32) (F : Nat) (out : (Nat → Int32)) (hm : M_Program_raiseHead F t_kind t_who t_start t_stratum x0 = some out) : KC l yX4_raiseHead cX4_raiseHead 5 none { frames := 1, cells := 0, slots := 0, locals := 21 } D (kTy cB cI cZ cJ) [.ref t, .int x0] [(t, .inr (4, [.ref t_kind_a, .ref t_place_a, .ref t_who_a, .ref t_width_a, .ref t_term_a, .ref t_start_a, .int t_size, .int t_rules, .ref t_sort_a, .ref t_arity_a, .ref t_stratum_a, .ref t_reach_a])), (t_kind_a, .inl (cI, 240, .inl t_kind)), (t_who_a, .inl (cI, 240, .inl t_who)), (t_start_a, .inl (cI, 241, .inl t_start)), (t_stratum_a, .inl (cI, 10, .inl t_stratum))] none [(t, .inr (4, [.ref t_kind_a, .ref t_place_a, .ref t_who_a, .ref t_width_a, .ref t_term_a, .ref t_start_a, .int t_size, .int t_rules, .ref t_sort_a, .ref t_arity_a, .ref t_stratum_a, .ref t_reach_a])), (t_kind_a, .inl (cI, 240, .inl t_kind)), (t_who_a, .inl (cI, 240, .inl t_who)), (t_start_a, .inl (cI, 241, .inl t_start)), (t_stratum_a, .inl (cI, 10, .inl out))] := by
  refine KC.of (by decide +kernel) (Nat.le_of_ble_eq_true rfl) ?_
  intro p e s m below meth c A ls args Q hQ CX hA hK hP hD hl
  obtain ⟨hx, hb, hr, hml, hown, hts, hlocks⟩ := CX
  have hown : s.vm.findClass RX4 = some m.cls := hown
  have hS : va_S A s.heap s.heap [] := va_S.rf
  have hl : lv_has ls 5 [(0, .ref t), (1, .int x0)] := hl
  have L21 : ∀ (w2 : Int32) (w1 : Int32) (n : Nat) (y3 : Int32) (c_t_stratum : Nat → Int32) (z : ((Nat → Int32))), M_Program_raiseHead_L21 F t_kind t_who t_start w2 w1 n y3 c_t_stratum = some z →
      (∀ (H : Heap) (locs : List Loc) (ls : Array Slot), va_P D vwCl [(t, .inr (4, [.ref t_kind_a, .ref t_place_a, .ref t_who_a, .ref t_width_a, .ref t_term_a, .ref t_start_a, .int t_size, .int t_rules, .ref t_sort_a, .ref t_arity_a, .ref t_stratum_a, .ref t_reach_a])), (t_kind_a, .inl (cI, 240, .inl t_kind)), (t_who_a, .inl (cI, 240, .inl t_who)), (t_start_a, .inl (cI, 241, .inl t_start)), (t_stratum_a, .inl (cI, 10, .inl z))] H → va_D A [(t, .inr (4, [.ref t_kind_a, .ref t_place_a, .ref t_who_a, .ref t_width_a, .ref t_term_a, .ref t_start_a, .int t_size, .int t_rules, .ref t_sort_a, .ref t_arity_a, .ref t_stratum_a, .ref t_reach_a])), (t_kind_a, .inl (cI, 240, .inl t_kind)), (t_who_a, .inl (cI, 240, .inl t_who)), (t_start_a, .inl (cI, 241, .inl t_start)), (t_stratum_a, .inl (cI, 10, .inl z))] → va_S A s.heap H locs → lv_has ls 5 [] → W p l e { frames := 1, cells := 0, slots := 0, locals := 21 } s m args below meth c H locs 0 0 Q (F0 m 93 ls [])) →
      ∀ (H : Heap) (locs : List Loc) (ls : Array Slot), va_P D vwCl [(t, .inr (4, [.ref t_kind_a, .ref t_place_a, .ref t_who_a, .ref t_width_a, .ref t_term_a, .ref t_start_a, .int t_size, .int t_rules, .ref t_sort_a, .ref t_arity_a, .ref t_stratum_a, .ref t_reach_a])), (t_kind_a, .inl (cI, 240, .inl t_kind)), (t_who_a, .inl (cI, 240, .inl t_who)), (t_start_a, .inl (cI, 241, .inl t_start)), (t_stratum_a, .inl (cI, 10, .inl c_t_stratum))] H → va_D A [(t, .inr (4, [.ref t_kind_a, .ref t_place_a, .ref t_who_a, .ref t_width_a, .ref t_term_a, .ref t_start_a, .int t_size, .int t_rules, .ref t_sort_a, .ref t_arity_a, .ref t_stratum_a, .ref t_reach_a])), (t_kind_a, .inl (cI, 240, .inl t_kind)), (t_who_a, .inl (cI, 240, .inl t_who)), (t_start_a, .inl (cI, 241, .inl t_start)), (t_stratum_a, .inl (cI, 10, .inl c_t_stratum))] → va_S A s.heap H locs → lv_has ls 5 [(3, .int y3), (2, .int w2), (0, .ref t), (1, .int w1)] → W p l e { frames := 1, cells := 0, slots := 0, locals := 21 } s m args below meth c H locs 0 0 Q (F0 m 21 ls []) := by
    intro w2 w1 n
    induction n with
    | zero => intro y3 c_t_stratum z hm; unfold M_Program_raiseHead_L21 at hm; cases hm
    | succ n ih =>
      intro y3 c_t_stratum z hm hE H locs ls hP hD hS hl
      unfold M_Program_raiseHead_L21 at hm
      refine lv_iload_n hx hb dX4_raiseHead_21 rfl (lv_at hl 0 rfl) ?_
      refine lv_aload_n hx hb dX4_raiseHead_22 rfl (lv_at hl 2 rfl) ?_
      refine va_get (D := D) (ci := 4) (v := .ref t_start_a) (C := RX4) (T := TX4) (N := 12) hx hb hts in_X4 hown hK hP 0 rfl rfl 5 (by decide) (hts _ kf_X4_29) (fun _ h9 => h9) rfl dX4_raiseHead_23 ?_
      refine lv_iload_n hx hb dX4_raiseHead_26 rfl (lv_at hl 3 rfl) ?_
      refine lv_iconst (v := (1 : Int32)) hx hb dX4_raiseHead_27 (by decide) ?_
      refine lv_iadd hx hb dX4_raiseHead_28 ?_
      refine va_iald hx hb hK hP 3 1 rfl rfl (gd_in hm) dX4_raiseHead_29 ?_
      have hm := gd_go hm
      refine lv_topi (fun v3 ev3 => ?_)
      have hm := lt_at ev3 hm
      refine lv_icmp_ge (tgt := 93) hx hb dX4_raiseHead_30 (by decide) (fun hc => ?_) (fun hc => ?_)
      · have hm := if_t hc hm
        cases hm
        exact hE H locs ls hP hD hS (lv_sub hl [] rfl)
      · have hm := if_f hc hm
        refine lv_aload_n hx hb dX4_raiseHead_33 rfl (lv_at hl 2 rfl) ?_
        refine lv_iload_n hx hb dX4_raiseHead_34 rfl (lv_at hl 0 rfl) ?_
        obtain ⟨z4, hz4, hm⟩ := bd_at hm
        refine k_callV (As := [.int y3]) (rest := []) (wr := [(t_who_a, .inl (cI, 240, .inl t_who)), (t_start_a, .inl (cI, 241, .inl t_start)), (t_stratum_a, .inl (cI, 10, .inl c_t_stratum))]) (ws1 := [(t, .inr (4, [.ref t_kind_a, .ref t_place_a, .ref t_who_a, .ref t_width_a, .ref t_term_a, .ref t_start_a, .int t_size, .int t_rules, .ref t_sort_a, .ref t_arity_a, .ref t_stratum_a, .ref t_reach_a])), (t_kind_a, .inl (cI, 240, .inl t_kind)), (t_who_a, .inl (cI, 240, .inl t_who)), (t_start_a, .inl (cI, 241, .inl t_start)), (t_stratum_a, .inl (cI, 10, .inl c_t_stratum))]) [0, 1] [2, 3, 4] [3, 4, 0, 1, 2] (K_Program_isAtom l D cB cI cZ cJ t t_kind_a t_place_a t_who_a t_width_a t_term_a t_start_a t_sort_a t_arity_a t_stratum_a t_reach_a t_size t_rules t_kind y3 z4 hz4) mf_X4_isAtom km_X4_51 hx hb hml hown hts hK hP hD hS hA hl.1 ⟨Nat.zero_le _, Nat.zero_le _⟩ dX4_raiseHead_35 rfl rfl (Nat.le_of_ble_eq_true rfl) ⟨⟨rfl, rfl⟩, Nat.le_of_ble_eq_true rfl, Nat.le_of_ble_eq_true rfl⟩ rfl rfl (by decide) rfl rfl rfl rfl (fun H locs hP hD hS => ?_)
        have hP : va_P D vwCl [(t, .inr (4, [.ref t_kind_a, .ref t_place_a, .ref t_who_a, .ref t_width_a, .ref t_term_a, .ref t_start_a, .int t_size, .int t_rules, .ref t_sort_a, .ref t_arity_a, .ref t_stratum_a, .ref t_reach_a])), (t_kind_a, .inl (cI, 240, .inl t_kind)), (t_who_a, .inl (cI, 240, .inl t_who)), (t_start_a, .inl (cI, 241, .inl t_start)), (t_stratum_a, .inl (cI, 10, .inl c_t_stratum))] H := hP
        have hD : va_D A [(t, .inr (4, [.ref t_kind_a, .ref t_place_a, .ref t_who_a, .ref t_width_a, .ref t_term_a, .ref t_start_a, .int t_size, .int t_rules, .ref t_sort_a, .ref t_arity_a, .ref t_stratum_a, .ref t_reach_a])), (t_kind_a, .inl (cI, 240, .inl t_kind)), (t_who_a, .inl (cI, 240, .inl t_who)), (t_start_a, .inl (cI, 241, .inl t_start)), (t_stratum_a, .inl (cI, 10, .inl c_t_stratum))] := hD
        refine lv_if_eq (tgt := 87) hx hb dX4_raiseHead_38 (by decide) (fun hc => ?_) (fun hc => ?_)
        · have hm := if_t hc hm
          obtain ⟨v5, ev5⟩ : ∃ y : Int32, y = y3 + (1 : Int32) := ⟨_, rfl⟩
          have hm := lt_at ev5 hm
          refine lv_iinc (v := v5) (lv' := [(3, .int v5), (2, .int w2), (0, .ref t), (1, .int w1)]) hx hb dX4_raiseHead_87 hl (k := 0) rfl (by rw [ev5]; rfl) (by decide) rfl (fun ls hl => ?_)
          refine lv_goto (tgt := 21) hx hb dX4_raiseHead_90 (by decide) ?_
          exact ih v5 c_t_stratum z hm hE H locs ls hP hD hS (lv_sub hl [0, 1, 2, 3] rfl)
        · have hm := if_f hc hm
          refine lv_aload_n hx hb dX4_raiseHead_41 rfl (lv_at hl 2 rfl) ?_
          refine va_get (D := D) (ci := 4) (v := .ref t_stratum_a) (C := RX4) (T := TX4) (N := 12) hx hb hts in_X4 hown hK hP 0 rfl rfl 10 (by decide) (hts _ kf_X4_45) (fun _ h9 => h9) rfl dX4_raiseHead_42 ?_
          refine lv_aload_n hx hb dX4_raiseHead_45 rfl (lv_at hl 2 rfl) ?_
          refine va_get (D := D) (ci := 4) (v := .ref t_who_a) (C := RX4) (T := TX4) (N := 12) hx hb hts in_X4 hown hK hP 0 rfl rfl 2 (by decide) (hts _ kf_X4_20) (fun _ h9 => h9) rfl dX4_raiseHead_46 ?_
          refine lv_iload_n hx hb dX4_raiseHead_49 rfl (lv_at hl 0 rfl) ?_
          refine va_iald hx hb hK hP 2 1 rfl rfl (gd_in hm) dX4_raiseHead_50 ?_
          have hm := gd_go hm
          refine va_iald hx hb hK hP 4 1 rfl rfl (gd_in hm) dX4_raiseHead_51 ?_
          have hm := gd_go hm
          refine lv_topi (fun v6 ev6 => ?_)
          have hm := lt_at ev6 hm
          refine lv_aload_n hx hb dX4_raiseHead_52 rfl (lv_at hl 2 rfl) ?_
          refine va_get (D := D) (ci := 4) (v := .ref t_kind_a) (C := RX4) (T := TX4) (N := 12) hx hb hts in_X4 hown hK hP 0 rfl rfl 0 (by decide) (hts _ kf_X4_13) (fun _ h9 => h9) rfl dX4_raiseHead_53 ?_
          refine lv_iload_n hx hb dX4_raiseHead_56 rfl (lv_at hl 0 rfl) ?_
          refine va_iald hx hb hK hP 1 1 rfl rfl (gd_in hm) dX4_raiseHead_57 ?_
          have hm := gd_go hm
          refine lv_iconst (v := (2 : Int32)) hx hb dX4_raiseHead_58 (by decide) ?_
          refine lv_icmp_ne (tgt := 66) hx hb dX4_raiseHead_59 (by decide) (fun hc => ?_) (fun hc => ?_)
          · have hm := if_f hc hm
            refine lv_iconst (v := (0 : Int32)) hx hb dX4_raiseHead_66 (by decide) ?_
            refine lv_iadd hx hb dX4_raiseHead_67 ?_
            refine lv_topi (fun v7 ev7 => ?_)
            have hm := lt_at ev7 hm
            refine lv_istore (lv' := [(4, .int v7), (3, .int y3), (2, .int w2), (0, .ref t), (1, .int w1)]) hx hb dX4_raiseHead_68 hl (by decide) rfl (fun ls hl => ?_)
            refine lv_aload_n hx hb dX4_raiseHead_70 rfl (lv_at hl 3 rfl) ?_
            refine va_get (D := D) (ci := 4) (v := .ref t_stratum_a) (C := RX4) (T := TX4) (N := 12) hx hb hts in_X4 hown hK hP 0 rfl rfl 10 (by decide) (hts _ kf_X4_45) (fun _ h9 => h9) rfl dX4_raiseHead_71 ?_
            refine lv_iload_n hx hb dX4_raiseHead_74 rfl (lv_at hl 2 rfl) ?_
            refine lv_aload_n hx hb dX4_raiseHead_75 rfl (lv_at hl 3 rfl) ?_
            refine va_get (D := D) (ci := 4) (v := .ref t_stratum_a) (C := RX4) (T := TX4) (N := 12) hx hb hts in_X4 hown hK hP 0 rfl rfl 10 (by decide) (hts _ kf_X4_45) (fun _ h9 => h9) rfl dX4_raiseHead_76 ?_
            refine lv_iload_n hx hb dX4_raiseHead_79 rfl (lv_at hl 2 rfl) ?_
            refine va_iald hx hb hK hP 4 1 rfl rfl (gd_in hm) dX4_raiseHead_80 ?_
            have hm := gd_go hm
            refine lv_iload hx hb dX4_raiseHead_81 (lv_at hl 0 rfl) ?_
            refine va_mmax hx hb (hml.trans hl.1.symm) hown (hts _ km_X4_65) (hts _ k_max1) (hts _ k_math) (hts _ k_max2) (Nat.le_of_ble_eq_true rfl) (Nat.le_of_ble_eq_true rfl) (Nat.zero_le _) (Nat.zero_le _) dX4_raiseHead_83 ?_
            refine lv_topi (fun v8 ev8 => ?_)
            have hm := lt_at ev8 hm
            refine k_iast hx hb hK hP hD hS 4 1 rfl rfl (gd_in hm) dX4_raiseHead_86 (fun f9 ef9 H locs hP hD hS => ?_)
            have hm := lt_at ef9 (gd_go hm)
            have hP : va_P D vwCl [(t, .inr (4, [.ref t_kind_a, .ref t_place_a, .ref t_who_a, .ref t_width_a, .ref t_term_a, .ref t_start_a, .int t_size, .int t_rules, .ref t_sort_a, .ref t_arity_a, .ref t_stratum_a, .ref t_reach_a])), (t_kind_a, .inl (cI, 240, .inl t_kind)), (t_who_a, .inl (cI, 240, .inl t_who)), (t_start_a, .inl (cI, 241, .inl t_start)), (t_stratum_a, .inl (cI, 10, .inl f9))] H := hP
            have hD : va_D A [(t, .inr (4, [.ref t_kind_a, .ref t_place_a, .ref t_who_a, .ref t_width_a, .ref t_term_a, .ref t_start_a, .int t_size, .int t_rules, .ref t_sort_a, .ref t_arity_a, .ref t_stratum_a, .ref t_reach_a])), (t_kind_a, .inl (cI, 240, .inl t_kind)), (t_who_a, .inl (cI, 240, .inl t_who)), (t_start_a, .inl (cI, 241, .inl t_start)), (t_stratum_a, .inl (cI, 10, .inl f9))] := hD
            obtain ⟨v10, ev10⟩ : ∃ y : Int32, y = y3 + (1 : Int32) := ⟨_, rfl⟩
            have hm := lt_at ev10 hm
            refine lv_iinc (v := v10) (lv' := [(3, .int v10), (4, .int v7), (2, .int w2), (0, .ref t), (1, .int w1)]) hx hb dX4_raiseHead_87 hl (k := 1) rfl (by rw [ev10]; rfl) (by decide) rfl (fun ls hl => ?_)
            refine lv_goto (tgt := 21) hx hb dX4_raiseHead_90 (by decide) ?_
            exact ih v10 f9 z hm hE H locs ls hP hD hS (lv_sub hl [0, 2, 3, 4] rfl)
          · have hm := if_t hc hm
            refine lv_iconst (v := (1 : Int32)) hx hb dX4_raiseHead_62 (by decide) ?_
            refine lv_goto (tgt := 67) hx hb dX4_raiseHead_63 (by decide) ?_
            refine lv_iadd hx hb dX4_raiseHead_67 ?_
            refine lv_topi (fun v11 ev11 => ?_)
            have hm := lt_at ev11 hm
            refine lv_istore (lv' := [(4, .int v11), (3, .int y3), (2, .int w2), (0, .ref t), (1, .int w1)]) hx hb dX4_raiseHead_68 hl (by decide) rfl (fun ls hl => ?_)
            refine lv_aload_n hx hb dX4_raiseHead_70 rfl (lv_at hl 3 rfl) ?_
            refine va_get (D := D) (ci := 4) (v := .ref t_stratum_a) (C := RX4) (T := TX4) (N := 12) hx hb hts in_X4 hown hK hP 0 rfl rfl 10 (by decide) (hts _ kf_X4_45) (fun _ h9 => h9) rfl dX4_raiseHead_71 ?_
            refine lv_iload_n hx hb dX4_raiseHead_74 rfl (lv_at hl 2 rfl) ?_
            refine lv_aload_n hx hb dX4_raiseHead_75 rfl (lv_at hl 3 rfl) ?_
            refine va_get (D := D) (ci := 4) (v := .ref t_stratum_a) (C := RX4) (T := TX4) (N := 12) hx hb hts in_X4 hown hK hP 0 rfl rfl 10 (by decide) (hts _ kf_X4_45) (fun _ h9 => h9) rfl dX4_raiseHead_76 ?_
            refine lv_iload_n hx hb dX4_raiseHead_79 rfl (lv_at hl 2 rfl) ?_
            refine va_iald hx hb hK hP 4 1 rfl rfl (gd_in hm) dX4_raiseHead_80 ?_
            have hm := gd_go hm
            refine lv_iload hx hb dX4_raiseHead_81 (lv_at hl 0 rfl) ?_
            refine va_mmax hx hb (hml.trans hl.1.symm) hown (hts _ km_X4_65) (hts _ k_max1) (hts _ k_math) (hts _ k_max2) (Nat.le_of_ble_eq_true rfl) (Nat.le_of_ble_eq_true rfl) (Nat.zero_le _) (Nat.zero_le _) dX4_raiseHead_83 ?_
            refine lv_topi (fun v12 ev12 => ?_)
            have hm := lt_at ev12 hm
            refine k_iast hx hb hK hP hD hS 4 1 rfl rfl (gd_in hm) dX4_raiseHead_86 (fun f13 ef13 H locs hP hD hS => ?_)
            have hm := lt_at ef13 (gd_go hm)
            have hP : va_P D vwCl [(t, .inr (4, [.ref t_kind_a, .ref t_place_a, .ref t_who_a, .ref t_width_a, .ref t_term_a, .ref t_start_a, .int t_size, .int t_rules, .ref t_sort_a, .ref t_arity_a, .ref t_stratum_a, .ref t_reach_a])), (t_kind_a, .inl (cI, 240, .inl t_kind)), (t_who_a, .inl (cI, 240, .inl t_who)), (t_start_a, .inl (cI, 241, .inl t_start)), (t_stratum_a, .inl (cI, 10, .inl f13))] H := hP
            have hD : va_D A [(t, .inr (4, [.ref t_kind_a, .ref t_place_a, .ref t_who_a, .ref t_width_a, .ref t_term_a, .ref t_start_a, .int t_size, .int t_rules, .ref t_sort_a, .ref t_arity_a, .ref t_stratum_a, .ref t_reach_a])), (t_kind_a, .inl (cI, 240, .inl t_kind)), (t_who_a, .inl (cI, 240, .inl t_who)), (t_start_a, .inl (cI, 241, .inl t_start)), (t_stratum_a, .inl (cI, 10, .inl f13))] := hD
            obtain ⟨v14, ev14⟩ : ∃ y : Int32, y = y3 + (1 : Int32) := ⟨_, rfl⟩
            have hm := lt_at ev14 hm
            refine lv_iinc (v := v14) (lv' := [(3, .int v14), (4, .int v11), (2, .int w2), (0, .ref t), (1, .int w1)]) hx hb dX4_raiseHead_87 hl (k := 1) rfl (by rw [ev14]; rfl) (by decide) rfl (fun ls hl => ?_)
            refine lv_goto (tgt := 21) hx hb dX4_raiseHead_90 (by decide) ?_
            exact ih v14 f13 z hm hE H locs ls hP hD hS (lv_sub hl [0, 2, 3, 4] rfl)
  unfold M_Program_raiseHead at hm
  obtain ⟨H, eH⟩ : ∃ H, H = s.heap := ⟨_, rfl⟩
  obtain ⟨locs, el⟩ : ∃ x : List Loc, x = [] := ⟨_, rfl⟩
  have hP : va_P D vwCl [(t, .inr (4, [.ref t_kind_a, .ref t_place_a, .ref t_who_a, .ref t_width_a, .ref t_term_a, .ref t_start_a, .int t_size, .int t_rules, .ref t_sort_a, .ref t_arity_a, .ref t_stratum_a, .ref t_reach_a])), (t_kind_a, .inl (cI, 240, .inl t_kind)), (t_who_a, .inl (cI, 240, .inl t_who)), (t_start_a, .inl (cI, 241, .inl t_start)), (t_stratum_a, .inl (cI, 10, .inl t_stratum))] H := eH ▸ hP
  have hS : va_S A s.heap H locs := by rw [eH, el]; exact hS
  suffices hW : W p l e { frames := 1, cells := 0, slots := 0, locals := 21 } s m args below meth c H locs 0 0 Q (F0 m 0 ls []) by rw [eH, el] at hW; exact hW
  clear eH el
  refine lv_aload_n hx hb dX4_raiseHead_0 rfl (lv_at hl 0 rfl) ?_
  refine va_get (D := D) (ci := 4) (v := .ref t_who_a) (C := RX4) (T := TX4) (N := 12) hx hb hts in_X4 hown hK hP 0 rfl rfl 2 (by decide) (hts _ kf_X4_20) (fun _ h9 => h9) rfl dX4_raiseHead_1 ?_
  refine lv_aload_n hx hb dX4_raiseHead_4 rfl (lv_at hl 0 rfl) ?_
  refine va_get (D := D) (ci := 4) (v := .ref t_start_a) (C := RX4) (T := TX4) (N := 12) hx hb hts in_X4 hown hK hP 0 rfl rfl 5 (by decide) (hts _ kf_X4_29) (fun _ h9 => h9) rfl dX4_raiseHead_5 ?_
  refine lv_iload_n hx hb dX4_raiseHead_8 rfl (lv_at hl 1 rfl) ?_
  refine va_iald hx hb hK hP 3 1 rfl rfl (gd_in hm) dX4_raiseHead_9 ?_
  have hm := gd_go hm
  refine va_iald hx hb hK hP 2 1 rfl rfl (gd_in hm) dX4_raiseHead_10 ?_
  have hm := gd_go hm
  refine lv_topi (fun v1 ev1 => ?_)
  have hm := lt_at ev1 hm
  refine lv_istore_n (lv' := [(2, .int v1), (0, .ref t), (1, .int x0)]) hx hb dX4_raiseHead_11 rfl hl (by decide) rfl (fun ls hl => ?_)
  refine lv_aload_n hx hb dX4_raiseHead_12 rfl (lv_at hl 1 rfl) ?_
  refine va_get (D := D) (ci := 4) (v := .ref t_start_a) (C := RX4) (T := TX4) (N := 12) hx hb hts in_X4 hown hK hP 0 rfl rfl 5 (by decide) (hts _ kf_X4_29) (fun _ h9 => h9) rfl dX4_raiseHead_13 ?_
  refine lv_iload_n hx hb dX4_raiseHead_16 rfl (lv_at hl 2 rfl) ?_
  refine va_iald hx hb hK hP 3 1 rfl rfl (gd_in hm) dX4_raiseHead_17 ?_
  have hm := gd_go hm
  refine lv_iconst (v := (1 : Int32)) hx hb dX4_raiseHead_18 (by decide) ?_
  refine lv_iadd hx hb dX4_raiseHead_19 ?_
  refine lv_topi (fun v2 ev2 => ?_)
  have hm := lt_at ev2 hm
  refine lv_istore_n (lv' := [(3, .int v2), (2, .int v1), (0, .ref t), (1, .int x0)]) hx hb dX4_raiseHead_20 rfl hl (by decide) rfl (fun ls hl => ?_)
  obtain ⟨z15, hz15, hm⟩ := bd_at hm
  refine L21 v1 x0 F v2 t_stratum z15 hz15 (fun H locs ls hP hD hS hl => ?_) H locs ls hP hD hS (lv_sub hl [0, 1, 2, 3] rfl)
  have ho := Option.some.inj hm
  exact k_vret hx hb hr hlocks hK hP hD hS dX4_raiseHead_93 hQ rfl (by rw [← ho])
noncomputable def M_Program_rankStrata_L2 (F : Nat) (t_sort : Nat → Int32) : Nat → Int32 → (Nat → Int32) → Option ((Nat → Int32))
  | 0, _, _ => none
  | n + 1, y1, c_t_stratum => if (10 : Int32) ≤ y1 then (some c_t_stratum) else (gd_ y1 10 <| if (t_sort y1.toNatClampNeg) = (2 : Int32) then (gd_ y1 10 <| lt_ (upd c_t_stratum y1.toNatClampNeg (1 : Int32)) fun f3 => lt_ (y1 + (1 : Int32)) fun v4 => M_Program_rankStrata_L2 F t_sort n v4 f3) else (gd_ y1 10 <| lt_ (upd c_t_stratum y1.toNatClampNeg (0 : Int32)) fun f1 => lt_ (y1 + (1 : Int32)) fun v2 => M_Program_rankStrata_L2 F t_sort n v2 f1))
noncomputable def M_Program_rankStrata_L45 (F : Nat) (t_kind : Nat → Int32) (t_who : Nat → Int32) (t_start : Nat → Int32) (t_rules : Int32) : Nat → Int32 → (Nat → Int32) → Option ((Nat → Int32))
  | 0, _, _ => none
  | n + 1, y2, c_t_stratum => if t_rules ≤ y2 then (some c_t_stratum) else (bd_ (M_Program_raiseHead F t_kind t_who t_start c_t_stratum y2) fun z6 => lt_ (y2 + (1 : Int32)) fun v7 => M_Program_rankStrata_L45 F t_kind t_who t_start t_rules n v7 z6)
noncomputable def M_Program_rankStrata_L37 (F : Nat) (t_kind : Nat → Int32) (t_who : Nat → Int32) (t_start : Nat → Int32) (t_rules : Int32) : Nat → Int32 → (Nat → Int32) → Option ((Nat → Int32))
  | 0, _, _ => none
  | n + 1, y1, c_t_stratum => if (10 : Int32) ≤ y1 then (some c_t_stratum) else (bd_ (M_Program_rankStrata_L45 F t_kind t_who t_start t_rules F (0 : Int32) c_t_stratum) fun z8 => lt_ (y1 + (1 : Int32)) fun v9 => M_Program_rankStrata_L37 F t_kind t_who t_start t_rules n v9 z8)
noncomputable def M_Program_rankStrata (F : Nat) (t_kind : Nat → Int32) (t_who : Nat → Int32) (t_start : Nat → Int32) (t_rules : Int32) (t_sort : Nat → Int32) (t_stratum : Nat → Int32) : Option ((Nat → Int32)) := bd_ (M_Program_rankStrata_L2 F t_sort F (0 : Int32) t_stratum) fun z5 => bd_ (M_Program_rankStrata_L37 F t_kind t_who t_start t_rules F (0 : Int32) z5) fun z10 => some z10
set_option maxRecDepth 100000 in
set_option maxHeartbeats 4000000 in
theorem K_Program_rankStrata (l : Launch) (D : va_G) (cB cI cZ cJ : ClassId) (t : Nat) (t_kind_a : Nat) (t_place_a : Nat) (t_who_a : Nat) (t_width_a : Nat) (t_term_a : Nat) (t_start_a : Nat) (t_sort_a : Nat) (t_arity_a : Nat) (t_stratum_a : Nat) (t_reach_a : Nat) (t_size : Int32) (t_rules : Int32) (t_kind : Nat → Int32) (t_who : Nat → Int32) (t_start : Nat → Int32) (t_sort : Nat → Int32) (t_stratum : Nat → Int32) (F : Nat) (out : (Nat → Int32)) (hm : M_Program_rankStrata F t_kind t_who t_start t_rules t_sort t_stratum = some out) : KC l yX4_rankStrata cX4_rankStrata 3 none { frames := 2, cells := 0, slots := 0, locals := 45 } D (kTy cB cI cZ cJ) [.ref t] [(t, .inr (4, [.ref t_kind_a, .ref t_place_a, .ref t_who_a, .ref t_width_a, .ref t_term_a, .ref t_start_a, .int t_size, .int t_rules, .ref t_sort_a, .ref t_arity_a, .ref t_stratum_a, .ref t_reach_a])), (t_kind_a, .inl (cI, 240, .inl t_kind)), (t_who_a, .inl (cI, 240, .inl t_who)), (t_start_a, .inl (cI, 241, .inl t_start)), (t_sort_a, .inl (cI, 10, .inl t_sort)), (t_stratum_a, .inl (cI, 10, .inl t_stratum))] none [(t, .inr (4, [.ref t_kind_a, .ref t_place_a, .ref t_who_a, .ref t_width_a, .ref t_term_a, .ref t_start_a, .int t_size, .int t_rules, .ref t_sort_a, .ref t_arity_a, .ref t_stratum_a, .ref t_reach_a])), (t_kind_a, .inl (cI, 240, .inl t_kind)), (t_who_a, .inl (cI, 240, .inl t_who)), (t_start_a, .inl (cI, 241, .inl t_start)), (t_sort_a, .inl (cI, 10, .inl t_sort)), (t_stratum_a, .inl (cI, 10, .inl out))] := by
  refine KC.of (by decide +kernel) (Nat.le_of_ble_eq_true rfl) ?_
  intro p e s m below meth c A ls args Q hQ CX hA hK hP hD hl
  obtain ⟨hx, hb, hr, hml, hown, hts, hlocks⟩ := CX
  have hown : s.vm.findClass RX4 = some m.cls := hown
  have hS : va_S A s.heap s.heap [] := va_S.rf
  have hl : lv_has ls 3 [(0, .ref t)] := hl
  have L2 : ∀ (n : Nat) (y1 : Int32) (c_t_stratum : Nat → Int32) (z : ((Nat → Int32))), M_Program_rankStrata_L2 F t_sort n y1 c_t_stratum = some z →
      (∀ (H : Heap) (locs : List Loc) (ls : Array Slot), va_P D vwCl [(t, .inr (4, [.ref t_kind_a, .ref t_place_a, .ref t_who_a, .ref t_width_a, .ref t_term_a, .ref t_start_a, .int t_size, .int t_rules, .ref t_sort_a, .ref t_arity_a, .ref t_stratum_a, .ref t_reach_a])), (t_kind_a, .inl (cI, 240, .inl t_kind)), (t_who_a, .inl (cI, 240, .inl t_who)), (t_start_a, .inl (cI, 241, .inl t_start)), (t_sort_a, .inl (cI, 10, .inl t_sort)), (t_stratum_a, .inl (cI, 10, .inl z))] H → va_D A [(t, .inr (4, [.ref t_kind_a, .ref t_place_a, .ref t_who_a, .ref t_width_a, .ref t_term_a, .ref t_start_a, .int t_size, .int t_rules, .ref t_sort_a, .ref t_arity_a, .ref t_stratum_a, .ref t_reach_a])), (t_kind_a, .inl (cI, 240, .inl t_kind)), (t_who_a, .inl (cI, 240, .inl t_who)), (t_start_a, .inl (cI, 241, .inl t_start)), (t_sort_a, .inl (cI, 10, .inl t_sort)), (t_stratum_a, .inl (cI, 10, .inl z))] → va_S A s.heap H locs → lv_has ls 3 [(0, .ref t)] → W p l e { frames := 2, cells := 0, slots := 0, locals := 45 } s m args below meth c H locs 0 0 Q (F0 m 35 ls [])) →
      ∀ (H : Heap) (locs : List Loc) (ls : Array Slot), va_P D vwCl [(t, .inr (4, [.ref t_kind_a, .ref t_place_a, .ref t_who_a, .ref t_width_a, .ref t_term_a, .ref t_start_a, .int t_size, .int t_rules, .ref t_sort_a, .ref t_arity_a, .ref t_stratum_a, .ref t_reach_a])), (t_kind_a, .inl (cI, 240, .inl t_kind)), (t_who_a, .inl (cI, 240, .inl t_who)), (t_start_a, .inl (cI, 241, .inl t_start)), (t_sort_a, .inl (cI, 10, .inl t_sort)), (t_stratum_a, .inl (cI, 10, .inl c_t_stratum))] H → va_D A [(t, .inr (4, [.ref t_kind_a, .ref t_place_a, .ref t_who_a, .ref t_width_a, .ref t_term_a, .ref t_start_a, .int t_size, .int t_rules, .ref t_sort_a, .ref t_arity_a, .ref t_stratum_a, .ref t_reach_a])), (t_kind_a, .inl (cI, 240, .inl t_kind)), (t_who_a, .inl (cI, 240, .inl t_who)), (t_start_a, .inl (cI, 241, .inl t_start)), (t_sort_a, .inl (cI, 10, .inl t_sort)), (t_stratum_a, .inl (cI, 10, .inl c_t_stratum))] → va_S A s.heap H locs → lv_has ls 3 [(1, .int y1), (0, .ref t)] → W p l e { frames := 2, cells := 0, slots := 0, locals := 45 } s m args below meth c H locs 0 0 Q (F0 m 2 ls []) := by
    intro  n
    induction n with
    | zero => intro y1 c_t_stratum z hm; unfold M_Program_rankStrata_L2 at hm; cases hm
    | succ n ih =>
      intro y1 c_t_stratum z hm hE H locs ls hP hD hS hl
      unfold M_Program_rankStrata_L2 at hm
      refine lv_iload_n hx hb dX4_rankStrata_2 rfl (lv_at hl 0 rfl) ?_
      refine lv_bipush (v := (10 : Int32)) hx hb dX4_rankStrata_3 (by decide) ?_
      refine lv_icmp_ge (tgt := 35) hx hb dX4_rankStrata_5 (by decide) (fun hc => ?_) (fun hc => ?_)
      · have hm := if_t hc hm
        cases hm
        exact hE H locs ls hP hD hS (lv_sub hl [1] rfl)
      · have hm := if_f hc hm
        refine lv_aload_n hx hb dX4_rankStrata_8 rfl (lv_at hl 1 rfl) ?_
        refine va_get (D := D) (ci := 4) (v := .ref t_stratum_a) (C := RX4) (T := TX4) (N := 12) hx hb hts in_X4 hown hK hP 0 rfl rfl 10 (by decide) (hts _ kf_X4_45) (fun _ h9 => h9) rfl dX4_rankStrata_9 ?_
        refine lv_iload_n hx hb dX4_rankStrata_12 rfl (lv_at hl 0 rfl) ?_
        refine lv_aload_n hx hb dX4_rankStrata_13 rfl (lv_at hl 1 rfl) ?_
        refine va_get (D := D) (ci := 4) (v := .ref t_sort_a) (C := RX4) (T := TX4) (N := 12) hx hb hts in_X4 hown hK hP 0 rfl rfl 8 (by decide) (hts _ kf_X4_39) (fun _ h9 => h9) rfl dX4_rankStrata_14 ?_
        refine lv_iload_n hx hb dX4_rankStrata_17 rfl (lv_at hl 0 rfl) ?_
        refine va_iald hx hb hK hP 4 1 rfl rfl (gd_in hm) dX4_rankStrata_18 ?_
        have hm := gd_go hm
        refine lv_iconst (v := (2 : Int32)) hx hb dX4_rankStrata_19 (by decide) ?_
        refine lv_icmp_ne (tgt := 27) hx hb dX4_rankStrata_20 (by decide) (fun hc => ?_) (fun hc => ?_)
        · have hm := if_f hc hm
          refine lv_iconst (v := (0 : Int32)) hx hb dX4_rankStrata_27 (by decide) ?_
          refine k_iast hx hb hK hP hD hS 5 1 rfl rfl (gd_in hm) dX4_rankStrata_28 (fun f1 ef1 H locs hP hD hS => ?_)
          have hm := lt_at ef1 (gd_go hm)
          have hP : va_P D vwCl [(t, .inr (4, [.ref t_kind_a, .ref t_place_a, .ref t_who_a, .ref t_width_a, .ref t_term_a, .ref t_start_a, .int t_size, .int t_rules, .ref t_sort_a, .ref t_arity_a, .ref t_stratum_a, .ref t_reach_a])), (t_kind_a, .inl (cI, 240, .inl t_kind)), (t_who_a, .inl (cI, 240, .inl t_who)), (t_start_a, .inl (cI, 241, .inl t_start)), (t_sort_a, .inl (cI, 10, .inl t_sort)), (t_stratum_a, .inl (cI, 10, .inl f1))] H := hP
          have hD : va_D A [(t, .inr (4, [.ref t_kind_a, .ref t_place_a, .ref t_who_a, .ref t_width_a, .ref t_term_a, .ref t_start_a, .int t_size, .int t_rules, .ref t_sort_a, .ref t_arity_a, .ref t_stratum_a, .ref t_reach_a])), (t_kind_a, .inl (cI, 240, .inl t_kind)), (t_who_a, .inl (cI, 240, .inl t_who)), (t_start_a, .inl (cI, 241, .inl t_start)), (t_sort_a, .inl (cI, 10, .inl t_sort)), (t_stratum_a, .inl (cI, 10, .inl f1))] := hD
          obtain ⟨v2, ev2⟩ : ∃ y : Int32, y = y1 + (1 : Int32) := ⟨_, rfl⟩
          have hm := lt_at ev2 hm
          refine lv_iinc (v := v2) (lv' := [(1, .int v2), (0, .ref t)]) hx hb dX4_rankStrata_29 hl (k := 0) rfl (by rw [ev2]; rfl) (by decide) rfl (fun ls hl => ?_)
          refine lv_goto (tgt := 2) hx hb dX4_rankStrata_32 (by decide) ?_
          exact ih v2 f1 z hm hE H locs ls hP hD hS (lv_sub hl [0, 1] rfl)
        · have hm := if_t hc hm
          refine lv_iconst (v := (1 : Int32)) hx hb dX4_rankStrata_23 (by decide) ?_
          refine lv_goto (tgt := 28) hx hb dX4_rankStrata_24 (by decide) ?_
          refine k_iast hx hb hK hP hD hS 5 1 rfl rfl (gd_in hm) dX4_rankStrata_28 (fun f3 ef3 H locs hP hD hS => ?_)
          have hm := lt_at ef3 (gd_go hm)
          have hP : va_P D vwCl [(t, .inr (4, [.ref t_kind_a, .ref t_place_a, .ref t_who_a, .ref t_width_a, .ref t_term_a, .ref t_start_a, .int t_size, .int t_rules, .ref t_sort_a, .ref t_arity_a, .ref t_stratum_a, .ref t_reach_a])), (t_kind_a, .inl (cI, 240, .inl t_kind)), (t_who_a, .inl (cI, 240, .inl t_who)), (t_start_a, .inl (cI, 241, .inl t_start)), (t_sort_a, .inl (cI, 10, .inl t_sort)), (t_stratum_a, .inl (cI, 10, .inl f3))] H := hP
          have hD : va_D A [(t, .inr (4, [.ref t_kind_a, .ref t_place_a, .ref t_who_a, .ref t_width_a, .ref t_term_a, .ref t_start_a, .int t_size, .int t_rules, .ref t_sort_a, .ref t_arity_a, .ref t_stratum_a, .ref t_reach_a])), (t_kind_a, .inl (cI, 240, .inl t_kind)), (t_who_a, .inl (cI, 240, .inl t_who)), (t_start_a, .inl (cI, 241, .inl t_start)), (t_sort_a, .inl (cI, 10, .inl t_sort)), (t_stratum_a, .inl (cI, 10, .inl f3))] := hD
          obtain ⟨v4, ev4⟩ : ∃ y : Int32, y = y1 + (1 : Int32) := ⟨_, rfl⟩
          have hm := lt_at ev4 hm
          refine lv_iinc (v := v4) (lv' := [(1, .int v4), (0, .ref t)]) hx hb dX4_rankStrata_29 hl (k := 0) rfl (by rw [ev4]; rfl) (by decide) rfl (fun ls hl => ?_)
          refine lv_goto (tgt := 2) hx hb dX4_rankStrata_32 (by decide) ?_
          exact ih v4 f3 z hm hE H locs ls hP hD hS (lv_sub hl [0, 1] rfl)
  have L45 : ∀ (w1 : Int32) (n : Nat) (y2 : Int32) (c_t_stratum : Nat → Int32) (z : ((Nat → Int32))), M_Program_rankStrata_L45 F t_kind t_who t_start t_rules n y2 c_t_stratum = some z →
      (∀ (H : Heap) (locs : List Loc) (ls : Array Slot), va_P D vwCl [(t, .inr (4, [.ref t_kind_a, .ref t_place_a, .ref t_who_a, .ref t_width_a, .ref t_term_a, .ref t_start_a, .int t_size, .int t_rules, .ref t_sort_a, .ref t_arity_a, .ref t_stratum_a, .ref t_reach_a])), (t_kind_a, .inl (cI, 240, .inl t_kind)), (t_who_a, .inl (cI, 240, .inl t_who)), (t_start_a, .inl (cI, 241, .inl t_start)), (t_sort_a, .inl (cI, 10, .inl t_sort)), (t_stratum_a, .inl (cI, 10, .inl z))] H → va_D A [(t, .inr (4, [.ref t_kind_a, .ref t_place_a, .ref t_who_a, .ref t_width_a, .ref t_term_a, .ref t_start_a, .int t_size, .int t_rules, .ref t_sort_a, .ref t_arity_a, .ref t_stratum_a, .ref t_reach_a])), (t_kind_a, .inl (cI, 240, .inl t_kind)), (t_who_a, .inl (cI, 240, .inl t_who)), (t_start_a, .inl (cI, 241, .inl t_start)), (t_sort_a, .inl (cI, 10, .inl t_sort)), (t_stratum_a, .inl (cI, 10, .inl z))] → va_S A s.heap H locs → lv_has ls 3 [(1, .int w1), (0, .ref t)] → W p l e { frames := 2, cells := 0, slots := 0, locals := 45 } s m args below meth c H locs 0 0 Q (F0 m 64 ls [])) →
      ∀ (H : Heap) (locs : List Loc) (ls : Array Slot), va_P D vwCl [(t, .inr (4, [.ref t_kind_a, .ref t_place_a, .ref t_who_a, .ref t_width_a, .ref t_term_a, .ref t_start_a, .int t_size, .int t_rules, .ref t_sort_a, .ref t_arity_a, .ref t_stratum_a, .ref t_reach_a])), (t_kind_a, .inl (cI, 240, .inl t_kind)), (t_who_a, .inl (cI, 240, .inl t_who)), (t_start_a, .inl (cI, 241, .inl t_start)), (t_sort_a, .inl (cI, 10, .inl t_sort)), (t_stratum_a, .inl (cI, 10, .inl c_t_stratum))] H → va_D A [(t, .inr (4, [.ref t_kind_a, .ref t_place_a, .ref t_who_a, .ref t_width_a, .ref t_term_a, .ref t_start_a, .int t_size, .int t_rules, .ref t_sort_a, .ref t_arity_a, .ref t_stratum_a, .ref t_reach_a])), (t_kind_a, .inl (cI, 240, .inl t_kind)), (t_who_a, .inl (cI, 240, .inl t_who)), (t_start_a, .inl (cI, 241, .inl t_start)), (t_sort_a, .inl (cI, 10, .inl t_sort)), (t_stratum_a, .inl (cI, 10, .inl c_t_stratum))] → va_S A s.heap H locs → lv_has ls 3 [(2, .int y2), (1, .int w1), (0, .ref t)] → W p l e { frames := 2, cells := 0, slots := 0, locals := 45 } s m args below meth c H locs 0 0 Q (F0 m 45 ls []) := by
    intro w1 n
    induction n with
    | zero => intro y2 c_t_stratum z hm; unfold M_Program_rankStrata_L45 at hm; cases hm
    | succ n ih =>
      intro y2 c_t_stratum z hm hE H locs ls hP hD hS hl
      unfold M_Program_rankStrata_L45 at hm
      refine lv_iload_n hx hb dX4_rankStrata_45 rfl (lv_at hl 0 rfl) ?_
      refine lv_aload_n hx hb dX4_rankStrata_46 rfl (lv_at hl 2 rfl) ?_
      refine va_get (D := D) (ci := 4) (v := .int t_rules) (C := RX4) (T := TX4) (N := 12) hx hb hts in_X4 hown hK hP 0 rfl rfl 7 (by decide) (hts _ kf_X4_36) (fun _ h9 => h9) rfl dX4_rankStrata_47 ?_
      refine lv_icmp_ge (tgt := 64) hx hb dX4_rankStrata_50 (by decide) (fun hc => ?_) (fun hc => ?_)
      · have hm := if_t hc hm
        cases hm
        exact hE H locs ls hP hD hS (lv_sub hl [1, 2] rfl)
      · have hm := if_f hc hm
        refine lv_aload_n hx hb dX4_rankStrata_53 rfl (lv_at hl 2 rfl) ?_
        refine lv_iload_n hx hb dX4_rankStrata_54 rfl (lv_at hl 0 rfl) ?_
        obtain ⟨z6, hz6, hm⟩ := bd_at hm
        refine k_callV (As := [.int y2]) (rest := []) (wr := [(t_sort_a, .inl (cI, 10, .inl t_sort))]) (ws1 := [(t, .inr (4, [.ref t_kind_a, .ref t_place_a, .ref t_who_a, .ref t_width_a, .ref t_term_a, .ref t_start_a, .int t_size, .int t_rules, .ref t_sort_a, .ref t_arity_a, .ref t_stratum_a, .ref t_reach_a])), (t_kind_a, .inl (cI, 240, .inl t_kind)), (t_who_a, .inl (cI, 240, .inl t_who)), (t_start_a, .inl (cI, 241, .inl t_start)), (t_sort_a, .inl (cI, 10, .inl t_sort)), (t_stratum_a, .inl (cI, 10, .inl z6))]) [0, 1, 2, 3, 5] [4] [1, 2, 3, 4, 0, 5] (K_Program_raiseHead l D cB cI cZ cJ t t_kind_a t_place_a t_who_a t_width_a t_term_a t_start_a t_sort_a t_arity_a t_stratum_a t_reach_a t_size t_rules t_kind t_who t_start c_t_stratum y2 F z6 hz6) mf_X4_raiseHead km_X4_62 hx hb hml hown hts hK hP hD hS hA hl.1 ⟨Nat.zero_le _, Nat.zero_le _⟩ dX4_rankStrata_55 rfl rfl (Nat.le_of_ble_eq_true rfl) ⟨⟨rfl, rfl⟩, Nat.le_of_ble_eq_true rfl, Nat.le_of_ble_eq_true rfl⟩ rfl rfl (by decide) rfl rfl rfl rfl (fun H locs hP hD hS => ?_)
        have hP : va_P D vwCl [(t, .inr (4, [.ref t_kind_a, .ref t_place_a, .ref t_who_a, .ref t_width_a, .ref t_term_a, .ref t_start_a, .int t_size, .int t_rules, .ref t_sort_a, .ref t_arity_a, .ref t_stratum_a, .ref t_reach_a])), (t_kind_a, .inl (cI, 240, .inl t_kind)), (t_who_a, .inl (cI, 240, .inl t_who)), (t_start_a, .inl (cI, 241, .inl t_start)), (t_sort_a, .inl (cI, 10, .inl t_sort)), (t_stratum_a, .inl (cI, 10, .inl z6))] H := hP
        have hD : va_D A [(t, .inr (4, [.ref t_kind_a, .ref t_place_a, .ref t_who_a, .ref t_width_a, .ref t_term_a, .ref t_start_a, .int t_size, .int t_rules, .ref t_sort_a, .ref t_arity_a, .ref t_stratum_a, .ref t_reach_a])), (t_kind_a, .inl (cI, 240, .inl t_kind)), (t_who_a, .inl (cI, 240, .inl t_who)), (t_start_a, .inl (cI, 241, .inl t_start)), (t_sort_a, .inl (cI, 10, .inl t_sort)), (t_stratum_a, .inl (cI, 10, .inl z6))] := hD
        obtain ⟨v7, ev7⟩ : ∃ y : Int32, y = y2 + (1 : Int32) := ⟨_, rfl⟩
        have hm := lt_at ev7 hm
        refine lv_iinc (v := v7) (lv' := [(2, .int v7), (1, .int w1), (0, .ref t)]) hx hb dX4_rankStrata_58 hl (k := 0) rfl (by rw [ev7]; rfl) (by decide) rfl (fun ls hl => ?_)
        refine lv_goto (tgt := 45) hx hb dX4_rankStrata_61 (by decide) ?_
        exact ih v7 z6 z hm hE H locs ls hP hD hS (lv_sub hl [0, 1, 2] rfl)
  have L37 : ∀ (n : Nat) (y1 : Int32) (c_t_stratum : Nat → Int32) (z : ((Nat → Int32))), M_Program_rankStrata_L37 F t_kind t_who t_start t_rules n y1 c_t_stratum = some z →
      (∀ (H : Heap) (locs : List Loc) (ls : Array Slot), va_P D vwCl [(t, .inr (4, [.ref t_kind_a, .ref t_place_a, .ref t_who_a, .ref t_width_a, .ref t_term_a, .ref t_start_a, .int t_size, .int t_rules, .ref t_sort_a, .ref t_arity_a, .ref t_stratum_a, .ref t_reach_a])), (t_kind_a, .inl (cI, 240, .inl t_kind)), (t_who_a, .inl (cI, 240, .inl t_who)), (t_start_a, .inl (cI, 241, .inl t_start)), (t_sort_a, .inl (cI, 10, .inl t_sort)), (t_stratum_a, .inl (cI, 10, .inl z))] H → va_D A [(t, .inr (4, [.ref t_kind_a, .ref t_place_a, .ref t_who_a, .ref t_width_a, .ref t_term_a, .ref t_start_a, .int t_size, .int t_rules, .ref t_sort_a, .ref t_arity_a, .ref t_stratum_a, .ref t_reach_a])), (t_kind_a, .inl (cI, 240, .inl t_kind)), (t_who_a, .inl (cI, 240, .inl t_who)), (t_start_a, .inl (cI, 241, .inl t_start)), (t_sort_a, .inl (cI, 10, .inl t_sort)), (t_stratum_a, .inl (cI, 10, .inl z))] → va_S A s.heap H locs → lv_has ls 3 [] → W p l e { frames := 2, cells := 0, slots := 0, locals := 45 } s m args below meth c H locs 0 0 Q (F0 m 70 ls [])) →
      ∀ (H : Heap) (locs : List Loc) (ls : Array Slot), va_P D vwCl [(t, .inr (4, [.ref t_kind_a, .ref t_place_a, .ref t_who_a, .ref t_width_a, .ref t_term_a, .ref t_start_a, .int t_size, .int t_rules, .ref t_sort_a, .ref t_arity_a, .ref t_stratum_a, .ref t_reach_a])), (t_kind_a, .inl (cI, 240, .inl t_kind)), (t_who_a, .inl (cI, 240, .inl t_who)), (t_start_a, .inl (cI, 241, .inl t_start)), (t_sort_a, .inl (cI, 10, .inl t_sort)), (t_stratum_a, .inl (cI, 10, .inl c_t_stratum))] H → va_D A [(t, .inr (4, [.ref t_kind_a, .ref t_place_a, .ref t_who_a, .ref t_width_a, .ref t_term_a, .ref t_start_a, .int t_size, .int t_rules, .ref t_sort_a, .ref t_arity_a, .ref t_stratum_a, .ref t_reach_a])), (t_kind_a, .inl (cI, 240, .inl t_kind)), (t_who_a, .inl (cI, 240, .inl t_who)), (t_start_a, .inl (cI, 241, .inl t_start)), (t_sort_a, .inl (cI, 10, .inl t_sort)), (t_stratum_a, .inl (cI, 10, .inl c_t_stratum))] → va_S A s.heap H locs → lv_has ls 3 [(1, .int y1), (0, .ref t)] → W p l e { frames := 2, cells := 0, slots := 0, locals := 45 } s m args below meth c H locs 0 0 Q (F0 m 37 ls []) := by
    intro  n
    induction n with
    | zero => intro y1 c_t_stratum z hm; unfold M_Program_rankStrata_L37 at hm; cases hm
    | succ n ih =>
      intro y1 c_t_stratum z hm hE H locs ls hP hD hS hl
      unfold M_Program_rankStrata_L37 at hm
      refine lv_iload_n hx hb dX4_rankStrata_37 rfl (lv_at hl 0 rfl) ?_
      refine lv_bipush (v := (10 : Int32)) hx hb dX4_rankStrata_38 (by decide) ?_
      refine lv_icmp_ge (tgt := 70) hx hb dX4_rankStrata_40 (by decide) (fun hc => ?_) (fun hc => ?_)
      · have hm := if_t hc hm
        cases hm
        exact hE H locs ls hP hD hS (lv_sub hl [] rfl)
      · have hm := if_f hc hm
        refine lv_iconst (v := (0 : Int32)) hx hb dX4_rankStrata_43 (by decide) ?_
        refine lv_istore_n (lv' := [(2, .int (0 : Int32)), (1, .int y1), (0, .ref t)]) hx hb dX4_rankStrata_44 rfl hl (by decide) rfl (fun ls hl => ?_)
        obtain ⟨z8, hz8, hm⟩ := bd_at hm
        refine L45 y1 F (0 : Int32) c_t_stratum z8 hz8 (fun H locs ls hP hD hS hl => ?_) H locs ls hP hD hS (lv_sub hl [0, 1, 2] rfl)
        obtain ⟨v9, ev9⟩ : ∃ y : Int32, y = y1 + (1 : Int32) := ⟨_, rfl⟩
        have hm := lt_at ev9 hm
        refine lv_iinc (v := v9) (lv' := [(1, .int v9), (0, .ref t)]) hx hb dX4_rankStrata_64 hl (k := 0) rfl (by rw [ev9]; rfl) (by decide) rfl (fun ls hl => ?_)
        refine lv_goto (tgt := 37) hx hb dX4_rankStrata_67 (by decide) ?_
        exact ih v9 z8 z hm hE H locs ls hP hD hS (lv_sub hl [0, 1] rfl)
  unfold M_Program_rankStrata at hm
  obtain ⟨H, eH⟩ : ∃ H, H = s.heap := ⟨_, rfl⟩
  obtain ⟨locs, el⟩ : ∃ x : List Loc, x = [] := ⟨_, rfl⟩
  have hP : va_P D vwCl [(t, .inr (4, [.ref t_kind_a, .ref t_place_a, .ref t_who_a, .ref t_width_a, .ref t_term_a, .ref t_start_a, .int t_size, .int t_rules, .ref t_sort_a, .ref t_arity_a, .ref t_stratum_a, .ref t_reach_a])), (t_kind_a, .inl (cI, 240, .inl t_kind)), (t_who_a, .inl (cI, 240, .inl t_who)), (t_start_a, .inl (cI, 241, .inl t_start)), (t_sort_a, .inl (cI, 10, .inl t_sort)), (t_stratum_a, .inl (cI, 10, .inl t_stratum))] H := eH ▸ hP
  have hS : va_S A s.heap H locs := by rw [eH, el]; exact hS
  suffices hW : W p l e { frames := 2, cells := 0, slots := 0, locals := 45 } s m args below meth c H locs 0 0 Q (F0 m 0 ls []) by rw [eH, el] at hW; exact hW
  clear eH el
  refine lv_iconst (v := (0 : Int32)) hx hb dX4_rankStrata_0 (by decide) ?_
  refine lv_istore_n (lv' := [(1, .int (0 : Int32)), (0, .ref t)]) hx hb dX4_rankStrata_1 rfl hl (by decide) rfl (fun ls hl => ?_)
  obtain ⟨z5, hz5, hm⟩ := bd_at hm
  refine L2  F (0 : Int32) t_stratum z5 hz5 (fun H locs ls hP hD hS hl => ?_) H locs ls hP hD hS (lv_sub hl [0, 1] rfl)
  refine lv_iconst (v := (0 : Int32)) hx hb dX4_rankStrata_35 (by decide) ?_
  refine lv_istore_n (lv' := [(1, .int (0 : Int32)), (0, .ref t)]) hx hb dX4_rankStrata_36 rfl hl (by decide) rfl (fun ls hl => ?_)
  obtain ⟨z10, hz10, hm⟩ := bd_at hm
  refine L37  F (0 : Int32) z5 z10 hz10 (fun H locs ls hP hD hS hl => ?_) H locs ls hP hD hS (lv_sub hl [0, 1] rfl)
  have ho := Option.some.inj hm
  exact k_vret hx hb hr hlocks hK hP hD hS dX4_rankStrata_70 hQ rfl (by rw [← ho])
noncomputable def M_Program_sortOf (t_sort : Nat → Int32) (x0 : Int32) : Option ((Int32)) := if x0 < 0 then (some (0 : Int32)) else (if (10 : Int32) ≤ x0 then (some (0 : Int32)) else (gd_ x0 10 <| some (t_sort x0.toNatClampNeg)))
set_option maxRecDepth 100000 in
set_option maxHeartbeats 4000000 in
theorem K_Program_sortOf (l : Launch) (D : va_G) (cB cI cZ cJ : ClassId) (t : Nat) (t_kind_a : Nat) (t_place_a : Nat) (t_who_a : Nat) (t_width_a : Nat) (t_term_a : Nat) (t_start_a : Nat) (t_sort_a : Nat) (t_arity_a : Nat) (t_stratum_a : Nat) (t_reach_a : Nat) (t_size : Int32) (t_rules : Int32) (t_sort : Nat → Int32) (x0 : Int32) (out : (Int32)) (hm : M_Program_sortOf t_sort x0 = some out) : KC l yX4_sortOf cX4_sortOf 2 (some .int) { frames := 0, cells := 0, slots := 0, locals := 0 } D (kTy cB cI cZ cJ) [.ref t, .int x0] [(t, .inr (4, [.ref t_kind_a, .ref t_place_a, .ref t_who_a, .ref t_width_a, .ref t_term_a, .ref t_start_a, .int t_size, .int t_rules, .ref t_sort_a, .ref t_arity_a, .ref t_stratum_a, .ref t_reach_a])), (t_sort_a, .inl (cI, 10, .inl t_sort))] (some (.int out)) [(t, .inr (4, [.ref t_kind_a, .ref t_place_a, .ref t_who_a, .ref t_width_a, .ref t_term_a, .ref t_start_a, .int t_size, .int t_rules, .ref t_sort_a, .ref t_arity_a, .ref t_stratum_a, .ref t_reach_a])), (t_sort_a, .inl (cI, 10, .inl t_sort))] := by
  refine KC.of (by decide +kernel) (Nat.le_of_ble_eq_true rfl) ?_
  intro p e s m below meth c A ls args Q hQ CX hA hK hP hD hl
  obtain ⟨hx, hb, hr, hml, hown, hts, hlocks⟩ := CX
  have hown : s.vm.findClass RX4 = some m.cls := hown
  have hS : va_S A s.heap s.heap [] := va_S.rf
  have hl : lv_has ls 2 [(0, .ref t), (1, .int x0)] := hl
  unfold M_Program_sortOf at hm
  obtain ⟨H, eH⟩ : ∃ H, H = s.heap := ⟨_, rfl⟩
  obtain ⟨locs, el⟩ : ∃ x : List Loc, x = [] := ⟨_, rfl⟩
  have hP : va_P D vwCl [(t, .inr (4, [.ref t_kind_a, .ref t_place_a, .ref t_who_a, .ref t_width_a, .ref t_term_a, .ref t_start_a, .int t_size, .int t_rules, .ref t_sort_a, .ref t_arity_a, .ref t_stratum_a, .ref t_reach_a])), (t_sort_a, .inl (cI, 10, .inl t_sort))] H := eH ▸ hP
  have hS : va_S A s.heap H locs := by rw [eH, el]; exact hS
  suffices hW : W p l e { frames := 0, cells := 0, slots := 0, locals := 0 } s m args below meth c H locs 0 0 Q (F0 m 0 ls []) by rw [eH, el] at hW; exact hW
  clear eH el
  refine lv_iload_n hx hb dX4_sortOf_0 rfl (lv_at hl 1 rfl) ?_
  refine lv_if_lt (tgt := 19) hx hb dX4_sortOf_1 (by decide) (fun hc => ?_) (fun hc => ?_)
  · have hm := if_t hc hm
    refine lv_iconst (v := (0 : Int32)) hx hb dX4_sortOf_19 (by decide) ?_
    have ho := Option.some.inj hm
    exact k_iret hx hb hr hlocks hK hP hD hS dX4_sortOf_20 hQ (by rw [← ho]) rfl
  · have hm := if_f hc hm
    refine lv_iload_n hx hb dX4_sortOf_4 rfl (lv_at hl 1 rfl) ?_
    refine lv_bipush (v := (10 : Int32)) hx hb dX4_sortOf_5 (by decide) ?_
    refine lv_icmp_ge (tgt := 19) hx hb dX4_sortOf_7 (by decide) (fun hc => ?_) (fun hc => ?_)
    · have hm := if_t hc hm
      refine lv_iconst (v := (0 : Int32)) hx hb dX4_sortOf_19 (by decide) ?_
      have ho := Option.some.inj hm
      exact k_iret hx hb hr hlocks hK hP hD hS dX4_sortOf_20 hQ (by rw [← ho]) rfl
    · have hm := if_f hc hm
      refine lv_aload_n hx hb dX4_sortOf_10 rfl (lv_at hl 0 rfl) ?_
      refine va_get (D := D) (ci := 4) (v := .ref t_sort_a) (C := RX4) (T := TX4) (N := 12) hx hb hts in_X4 hown hK hP 0 rfl rfl 8 (by decide) (hts _ kf_X4_39) (fun _ h9 => h9) rfl dX4_sortOf_11 ?_
      refine lv_iload_n hx hb dX4_sortOf_14 rfl (lv_at hl 1 rfl) ?_
      refine va_iald hx hb hK hP 1 1 rfl rfl (gd_in hm) dX4_sortOf_15 ?_
      have hm := gd_go hm
      refine lv_goto (tgt := 20) hx hb dX4_sortOf_16 (by decide) ?_
      have ho := Option.some.inj hm
      exact k_iret hx hb hr hlocks hK hP hD hS dX4_sortOf_20 hQ (by rw [← ho]) rfl
noncomputable def M_Program_isConstant (x0 : Int32) : Option ((Int32)) := if x0 < 0 then (some (0 : Int32)) else (if (12 : Int32) ≤ x0 then (some (0 : Int32)) else (some (1 : Int32)))
set_option maxRecDepth 100000 in
set_option maxHeartbeats 4000000 in
theorem K_Program_isConstant (l : Launch) (D : va_G) (cB cI cZ cJ : ClassId) (x0 : Int32) (out : (Int32)) (hm : M_Program_isConstant x0 = some out) : KC l yX4_isConstant cX4_isConstant 1 (some .boolean) { frames := 0, cells := 0, slots := 0, locals := 0 } D (kTy cB cI cZ cJ) [.int x0] [] (some (.int out)) [] := by
  refine KC.of (by decide +kernel) (Nat.le_of_ble_eq_true rfl) ?_
  intro p e s m below meth c A ls args Q hQ CX hA hK hP hD hl
  obtain ⟨hx, hb, hr, hml, hown, hts, hlocks⟩ := CX
  have hown : s.vm.findClass RX4 = some m.cls := hown
  have hS : va_S A s.heap s.heap [] := va_S.rf
  have hl : lv_has ls 1 [(0, .int x0)] := hl
  unfold M_Program_isConstant at hm
  obtain ⟨H, eH⟩ : ∃ H, H = s.heap := ⟨_, rfl⟩
  obtain ⟨locs, el⟩ : ∃ x : List Loc, x = [] := ⟨_, rfl⟩
  have hP : va_P D vwCl [] H := eH ▸ hP
  have hS : va_S A s.heap H locs := by rw [eH, el]; exact hS
  suffices hW : W p l e { frames := 0, cells := 0, slots := 0, locals := 0 } s m args below meth c H locs 0 0 Q (F0 m 0 ls []) by rw [eH, el] at hW; exact hW
  clear eH el
  refine lv_iload_n hx hb dX4_isConstant_0 rfl (lv_at hl 0 rfl) ?_
  refine lv_if_lt (tgt := 14) hx hb dX4_isConstant_1 (by decide) (fun hc => ?_) (fun hc => ?_)
  · have hm := if_t hc hm
    refine lv_iconst (v := (0 : Int32)) hx hb dX4_isConstant_14 (by decide) ?_
    have ho := Option.some.inj hm
    exact k_zret (by decide +kernel) hx hb hr hlocks hK hP hD hS dX4_isConstant_15 hQ (by rw [← ho]) rfl
  · have hm := if_f hc hm
    refine lv_iload_n hx hb dX4_isConstant_4 rfl (lv_at hl 0 rfl) ?_
    refine lv_bipush (v := (12 : Int32)) hx hb dX4_isConstant_5 (by decide) ?_
    refine lv_icmp_ge (tgt := 14) hx hb dX4_isConstant_7 (by decide) (fun hc => ?_) (fun hc => ?_)
    · have hm := if_t hc hm
      refine lv_iconst (v := (0 : Int32)) hx hb dX4_isConstant_14 (by decide) ?_
      have ho := Option.some.inj hm
      exact k_zret (by decide +kernel) hx hb hr hlocks hK hP hD hS dX4_isConstant_15 hQ (by rw [← ho]) rfl
    · have hm := if_f hc hm
      refine lv_iconst (v := (1 : Int32)) hx hb dX4_isConstant_10 (by decide) ?_
      refine lv_goto (tgt := 15) hx hb dX4_isConstant_11 (by decide) ?_
      have ho := Option.some.inj hm
      exact k_zret (by decide +kernel) hx hb hr hlocks hK hP hD hS dX4_isConstant_15 hQ (by rw [← ho]) rfl
noncomputable def M_Program_number (t_sort : Nat → Int32) (t_arity : Nat → Int32) (x0 : Int32) (x1 : Int32) (x2 : Int32) (x3 : Int32) : Option ((Int32)) := bd_ (M_Program_sortOf t_sort x0) fun z1 => if z1 = 0 then (some (-1 : Int32)) else (gd_ x0 10 <| lt_ ((t_arity x0.toNatClampNeg)) fun v2 => if v2 ≤ 0 then (if v2 ≤ (1 : Int32) then (if v2 ≤ (2 : Int32) then (if v2 = (0 : Int32) then (some (0 : Int32)) else if v2 = (1 : Int32) then (some x1) else if v2 = (2 : Int32) then (some (((12 : Int32) * x1) + x2)) else (lt_ ((((((12 : Int32) * x1) + x2) * (12 : Int32)) + x3)) fun v3 => some v3)) else (bd_ (M_Program_isConstant x3) fun z4 => if z4 = 0 then (some (-1 : Int32)) else (if v2 = (0 : Int32) then (some (0 : Int32)) else if v2 = (1 : Int32) then (some x1) else if v2 = (2 : Int32) then (some (((12 : Int32) * x1) + x2)) else (lt_ ((((((12 : Int32) * x1) + x2) * (12 : Int32)) + x3)) fun v5 => some v5)))) else (bd_ (M_Program_isConstant x2) fun z6 => if z6 = 0 then (some (-1 : Int32)) else (if v2 ≤ (2 : Int32) then (if v2 = (0 : Int32) then (some (0 : Int32)) else if v2 = (1 : Int32) then (some x1) else if v2 = (2 : Int32) then (some (((12 : Int32) * x1) + x2)) else (lt_ ((((((12 : Int32) * x1) + x2) * (12 : Int32)) + x3)) fun v7 => some v7)) else (bd_ (M_Program_isConstant x3) fun z8 => if z8 = 0 then (some (-1 : Int32)) else (if v2 = (0 : Int32) then (some (0 : Int32)) else if v2 = (1 : Int32) then (some x1) else if v2 = (2 : Int32) then (some (((12 : Int32) * x1) + x2)) else (lt_ ((((((12 : Int32) * x1) + x2) * (12 : Int32)) + x3)) fun v9 => some v9)))))) else (bd_ (M_Program_isConstant x1) fun z10 => if z10 = 0 then (some (-1 : Int32)) else (if v2 ≤ (1 : Int32) then (if v2 ≤ (2 : Int32) then (if v2 = (0 : Int32) then (some (0 : Int32)) else if v2 = (1 : Int32) then (some x1) else if v2 = (2 : Int32) then (some (((12 : Int32) * x1) + x2)) else (lt_ ((((((12 : Int32) * x1) + x2) * (12 : Int32)) + x3)) fun v11 => some v11)) else (bd_ (M_Program_isConstant x3) fun z12 => if z12 = 0 then (some (-1 : Int32)) else (if v2 = (0 : Int32) then (some (0 : Int32)) else if v2 = (1 : Int32) then (some x1) else if v2 = (2 : Int32) then (some (((12 : Int32) * x1) + x2)) else (lt_ ((((((12 : Int32) * x1) + x2) * (12 : Int32)) + x3)) fun v13 => some v13)))) else (bd_ (M_Program_isConstant x2) fun z14 => if z14 = 0 then (some (-1 : Int32)) else (if v2 ≤ (2 : Int32) then (if v2 = (0 : Int32) then (some (0 : Int32)) else if v2 = (1 : Int32) then (some x1) else if v2 = (2 : Int32) then (some (((12 : Int32) * x1) + x2)) else (lt_ ((((((12 : Int32) * x1) + x2) * (12 : Int32)) + x3)) fun v15 => some v15)) else (bd_ (M_Program_isConstant x3) fun z16 => if z16 = 0 then (some (-1 : Int32)) else (if v2 = (0 : Int32) then (some (0 : Int32)) else if v2 = (1 : Int32) then (some x1) else if v2 = (2 : Int32) then (some (((12 : Int32) * x1) + x2)) else (lt_ ((((((12 : Int32) * x1) + x2) * (12 : Int32)) + x3)) fun v17 => some v17))))))))
set_option maxRecDepth 100000 in
set_option maxHeartbeats 4000000 in
theorem K_Program_number (l : Launch) (D : va_G) (cB cI cZ cJ : ClassId) (t : Nat) (t_kind_a : Nat) (t_place_a : Nat) (t_who_a : Nat) (t_width_a : Nat) (t_term_a : Nat) (t_start_a : Nat) (t_sort_a : Nat) (t_arity_a : Nat) (t_stratum_a : Nat) (t_reach_a : Nat) (t_size : Int32) (t_rules : Int32) (t_sort : Nat → Int32) (t_arity : Nat → Int32) (x0 : Int32) (x1 : Int32) (x2 : Int32) (x3 : Int32) (out : (Int32)) (hm : M_Program_number t_sort t_arity x0 x1 x2 x3 = some out) : KC l yX4_number cX4_number 6 (some .int) { frames := 1, cells := 0, slots := 0, locals := 21 } D (kTy cB cI cZ cJ) [.ref t, .int x0, .int x1, .int x2, .int x3] [(t, .inr (4, [.ref t_kind_a, .ref t_place_a, .ref t_who_a, .ref t_width_a, .ref t_term_a, .ref t_start_a, .int t_size, .int t_rules, .ref t_sort_a, .ref t_arity_a, .ref t_stratum_a, .ref t_reach_a])), (t_sort_a, .inl (cI, 10, .inl t_sort)), (t_arity_a, .inl (cI, 10, .inl t_arity))] (some (.int out)) [(t, .inr (4, [.ref t_kind_a, .ref t_place_a, .ref t_who_a, .ref t_width_a, .ref t_term_a, .ref t_start_a, .int t_size, .int t_rules, .ref t_sort_a, .ref t_arity_a, .ref t_stratum_a, .ref t_reach_a])), (t_sort_a, .inl (cI, 10, .inl t_sort)), (t_arity_a, .inl (cI, 10, .inl t_arity))] := by
  refine KC.of (by decide +kernel) (Nat.le_of_ble_eq_true rfl) ?_
  intro p e s m below meth c A ls args Q hQ CX hA hK hP hD hl
  obtain ⟨hx, hb, hr, hml, hown, hts, hlocks⟩ := CX
  have hown : s.vm.findClass RX4 = some m.cls := hown
  have hS : va_S A s.heap s.heap [] := va_S.rf
  have hl : lv_has ls 6 [(0, .ref t), (1, .int x0), (2, .int x1), (3, .int x2), (4, .int x3)] := hl
  unfold M_Program_number at hm
  obtain ⟨H, eH⟩ : ∃ H, H = s.heap := ⟨_, rfl⟩
  obtain ⟨locs, el⟩ : ∃ x : List Loc, x = [] := ⟨_, rfl⟩
  have hP : va_P D vwCl [(t, .inr (4, [.ref t_kind_a, .ref t_place_a, .ref t_who_a, .ref t_width_a, .ref t_term_a, .ref t_start_a, .int t_size, .int t_rules, .ref t_sort_a, .ref t_arity_a, .ref t_stratum_a, .ref t_reach_a])), (t_sort_a, .inl (cI, 10, .inl t_sort)), (t_arity_a, .inl (cI, 10, .inl t_arity))] H := eH ▸ hP
  have hS : va_S A s.heap H locs := by rw [eH, el]; exact hS
  suffices hW : W p l e { frames := 1, cells := 0, slots := 0, locals := 21 } s m args below meth c H locs 0 0 Q (F0 m 0 ls []) by rw [eH, el] at hW; exact hW
  clear eH el
  refine lv_aload_n hx hb dX4_number_0 rfl (lv_at hl 0 rfl) ?_
  refine lv_iload_n hx hb dX4_number_1 rfl (lv_at hl 1 rfl) ?_
  obtain ⟨z1, hz1, hm⟩ := bd_at hm
  refine k_callV (As := [.int x0]) (rest := []) (wr := [(t_arity_a, .inl (cI, 10, .inl t_arity))]) (ws1 := [(t, .inr (4, [.ref t_kind_a, .ref t_place_a, .ref t_who_a, .ref t_width_a, .ref t_term_a, .ref t_start_a, .int t_size, .int t_rules, .ref t_sort_a, .ref t_arity_a, .ref t_stratum_a, .ref t_reach_a])), (t_sort_a, .inl (cI, 10, .inl t_sort)), (t_arity_a, .inl (cI, 10, .inl t_arity))]) [0, 1] [2] [1, 2, 0] (K_Program_sortOf l D cB cI cZ cJ t t_kind_a t_place_a t_who_a t_width_a t_term_a t_start_a t_sort_a t_arity_a t_stratum_a t_reach_a t_size t_rules t_sort x0 z1 hz1) mf_X4_sortOf km_X4_71 hx hb hml hown hts hK hP hD hS hA hl.1 ⟨Nat.zero_le _, Nat.zero_le _⟩ dX4_number_2 rfl rfl (Nat.le_of_ble_eq_true rfl) ⟨⟨rfl, rfl⟩, Nat.le_of_ble_eq_true rfl, Nat.le_of_ble_eq_true rfl⟩ rfl rfl (by decide) rfl rfl rfl rfl (fun H locs hP hD hS => ?_)
  have hP : va_P D vwCl [(t, .inr (4, [.ref t_kind_a, .ref t_place_a, .ref t_who_a, .ref t_width_a, .ref t_term_a, .ref t_start_a, .int t_size, .int t_rules, .ref t_sort_a, .ref t_arity_a, .ref t_stratum_a, .ref t_reach_a])), (t_sort_a, .inl (cI, 10, .inl t_sort)), (t_arity_a, .inl (cI, 10, .inl t_arity))] H := hP
  have hD : va_D A [(t, .inr (4, [.ref t_kind_a, .ref t_place_a, .ref t_who_a, .ref t_width_a, .ref t_term_a, .ref t_start_a, .int t_size, .int t_rules, .ref t_sort_a, .ref t_arity_a, .ref t_stratum_a, .ref t_reach_a])), (t_sort_a, .inl (cI, 10, .inl t_sort)), (t_arity_a, .inl (cI, 10, .inl t_arity))] := hD
  refine lv_if_ne (tgt := 10) hx hb dX4_number_5 (by decide) (fun hc => ?_) (fun hc => ?_)
  · have hm := if_f hc hm
    refine lv_aload_n hx hb dX4_number_10 rfl (lv_at hl 0 rfl) ?_
    refine va_get (D := D) (ci := 4) (v := .ref t_arity_a) (C := RX4) (T := TX4) (N := 12) hx hb hts in_X4 hown hK hP 0 rfl rfl 9 (by decide) (hts _ kf_X4_42) (fun _ h9 => h9) rfl dX4_number_11 ?_
    refine lv_iload_n hx hb dX4_number_14 rfl (lv_at hl 1 rfl) ?_
    refine va_iald hx hb hK hP 2 1 rfl rfl (gd_in hm) dX4_number_15 ?_
    have hm := gd_go hm
    refine lv_topi (fun v2 ev2 => ?_)
    have hm := lt_at ev2 hm
    refine lv_istore (lv' := [(5, .int v2), (0, .ref t), (1, .int x0), (2, .int x1), (3, .int x2), (4, .int x3)]) hx hb dX4_number_16 hl (by decide) rfl (fun ls hl => ?_)
    refine lv_iload hx hb dX4_number_18 (lv_at hl 0 rfl) ?_
    refine lv_if_le (tgt := 30) hx hb dX4_number_20 (by decide) (fun hc => ?_) (fun hc => ?_)
    · have hm := if_t hc hm
      refine lv_iload hx hb dX4_number_30 (lv_at hl 0 rfl) ?_
      refine lv_iconst (v := (1 : Int32)) hx hb dX4_number_32 (by decide) ?_
      refine lv_icmp_le (tgt := 43) hx hb dX4_number_33 (by decide) (fun hc => ?_) (fun hc => ?_)
      · have hm := if_t hc hm
        refine lv_iload hx hb dX4_number_43 (lv_at hl 0 rfl) ?_
        refine lv_iconst (v := (2 : Int32)) hx hb dX4_number_45 (by decide) ?_
        refine lv_icmp_le (tgt := 59) hx hb dX4_number_46 (by decide) (fun hc => ?_) (fun hc => ?_)
        · have hm := if_t hc hm
          refine lv_iload hx hb dX4_number_59 (lv_at hl 0 rfl) ?_
          by_cases hs0 : v2 = (0 : Int32)
          · have hm := if_t hs0 hm
            refine k_tIn (tgt := 88) hx hb (0 : Int32) hs0 dX4_number_61 (by decide) rfl (by decide) ?_
            refine lv_iconst (v := (0 : Int32)) hx hb dX4_number_88 (by decide) ?_
            have ho := Option.some.inj hm
            exact k_iret hx hb hr hlocks hK hP hD hS dX4_number_89 hQ (by rw [← ho]) rfl
          · have hm := if_f hs0 hm
            by_cases hs1 : v2 = (1 : Int32)
            · have hm := if_t hs1 hm
              refine k_tIn (tgt := 90) hx hb (1 : Int32) hs1 dX4_number_61 (by decide) rfl (by decide) ?_
              refine lv_iload_n hx hb dX4_number_90 rfl (lv_at hl 3 rfl) ?_
              have ho := Option.some.inj hm
              exact k_iret hx hb hr hlocks hK hP hD hS dX4_number_91 hQ (by rw [← ho]) rfl
            · have hm := if_f hs1 hm
              by_cases hs2 : v2 = (2 : Int32)
              · have hm := if_t hs2 hm
                refine k_tIn (tgt := 92) hx hb (2 : Int32) hs2 dX4_number_61 (by decide) rfl (by decide) ?_
                refine lv_bipush (v := (12 : Int32)) hx hb dX4_number_92 (by decide) ?_
                refine lv_iload_n hx hb dX4_number_94 rfl (lv_at hl 3 rfl) ?_
                refine lv_imul hx hb dX4_number_95 ?_
                refine lv_iload_n hx hb dX4_number_96 rfl (lv_at hl 4 rfl) ?_
                refine lv_iadd hx hb dX4_number_97 ?_
                have ho := Option.some.inj hm
                exact k_iret hx hb hr hlocks hK hP hD hS dX4_number_98 hQ (by rw [← ho]) rfl
              · have hm := if_f hs2 hm
                refine k_tOut (tgt := 99) hx hb dX4_number_61 (fun k h1 h2 => ?_) (by decide) ?_
                · have h3 : k = 0 ∨ k = 1 ∨ k = 2 := by omega
                  rcases h3 with rfl | rfl | rfl
                  · exact hs0
                  · exact hs1
                  · exact hs2
                · have hm := hm
                  refine lv_bipush (v := (12 : Int32)) hx hb dX4_number_99 (by decide) ?_
                  refine lv_iload_n hx hb dX4_number_101 rfl (lv_at hl 3 rfl) ?_
                  refine lv_imul hx hb dX4_number_102 ?_
                  refine lv_iload_n hx hb dX4_number_103 rfl (lv_at hl 4 rfl) ?_
                  refine lv_iadd hx hb dX4_number_104 ?_
                  refine lv_bipush (v := (12 : Int32)) hx hb dX4_number_105 (by decide) ?_
                  refine lv_imul hx hb dX4_number_107 ?_
                  refine lv_iload hx hb dX4_number_108 (lv_at hl 5 rfl) ?_
                  refine lv_iadd hx hb dX4_number_110 ?_
                  refine lv_topi (fun v3 ev3 => ?_)
                  have hm := lt_at ev3 hm
                  have ho := Option.some.inj hm
                  exact k_iret hx hb hr hlocks hK hP hD hS dX4_number_111 hQ (by rw [← ho]) rfl
        · have hm := if_f hc hm
          refine lv_iload hx hb dX4_number_49 (lv_at hl 5 rfl) ?_
          obtain ⟨z4, hz4, hm⟩ := bd_at hm
          refine k_callS (As := [.int x3]) (rest := []) (wr := [(t, .inr (4, [.ref t_kind_a, .ref t_place_a, .ref t_who_a, .ref t_width_a, .ref t_term_a, .ref t_start_a, .int t_size, .int t_rules, .ref t_sort_a, .ref t_arity_a, .ref t_stratum_a, .ref t_reach_a])), (t_sort_a, .inl (cI, 10, .inl t_sort)), (t_arity_a, .inl (cI, 10, .inl t_arity))]) (ws1 := [(t, .inr (4, [.ref t_kind_a, .ref t_place_a, .ref t_who_a, .ref t_width_a, .ref t_term_a, .ref t_start_a, .int t_size, .int t_rules, .ref t_sort_a, .ref t_arity_a, .ref t_stratum_a, .ref t_reach_a])), (t_sort_a, .inl (cI, 10, .inl t_sort)), (t_arity_a, .inl (cI, 10, .inl t_arity))]) [] [0, 1, 2] [0, 1, 2] (K_Program_isConstant l D cB cI cZ cJ x3 z4 hz4) ms_X4_isConstant km_X4_75 hx hb hml hown hts hK hP hD hS hA hl.1 ⟨Nat.zero_le _, Nat.zero_le _⟩ dX4_number_51 rfl rfl (Nat.le_of_ble_eq_true rfl) ⟨⟨rfl, rfl⟩, Nat.le_of_ble_eq_true rfl, Nat.le_of_ble_eq_true rfl⟩ rfl rfl (by decide) rfl (fun H locs hP hD hS => ?_)
          have hP : va_P D vwCl [(t, .inr (4, [.ref t_kind_a, .ref t_place_a, .ref t_who_a, .ref t_width_a, .ref t_term_a, .ref t_start_a, .int t_size, .int t_rules, .ref t_sort_a, .ref t_arity_a, .ref t_stratum_a, .ref t_reach_a])), (t_sort_a, .inl (cI, 10, .inl t_sort)), (t_arity_a, .inl (cI, 10, .inl t_arity))] H := hP
          have hD : va_D A [(t, .inr (4, [.ref t_kind_a, .ref t_place_a, .ref t_who_a, .ref t_width_a, .ref t_term_a, .ref t_start_a, .int t_size, .int t_rules, .ref t_sort_a, .ref t_arity_a, .ref t_stratum_a, .ref t_reach_a])), (t_sort_a, .inl (cI, 10, .inl t_sort)), (t_arity_a, .inl (cI, 10, .inl t_arity))] := hD
          refine lv_if_ne (tgt := 59) hx hb dX4_number_54 (by decide) (fun hc => ?_) (fun hc => ?_)
          · have hm := if_f hc hm
            refine lv_iload hx hb dX4_number_59 (lv_at hl 0 rfl) ?_
            by_cases hs0 : v2 = (0 : Int32)
            · have hm := if_t hs0 hm
              refine k_tIn (tgt := 88) hx hb (0 : Int32) hs0 dX4_number_61 (by decide) rfl (by decide) ?_
              refine lv_iconst (v := (0 : Int32)) hx hb dX4_number_88 (by decide) ?_
              have ho := Option.some.inj hm
              exact k_iret hx hb hr hlocks hK hP hD hS dX4_number_89 hQ (by rw [← ho]) rfl
            · have hm := if_f hs0 hm
              by_cases hs1 : v2 = (1 : Int32)
              · have hm := if_t hs1 hm
                refine k_tIn (tgt := 90) hx hb (1 : Int32) hs1 dX4_number_61 (by decide) rfl (by decide) ?_
                refine lv_iload_n hx hb dX4_number_90 rfl (lv_at hl 3 rfl) ?_
                have ho := Option.some.inj hm
                exact k_iret hx hb hr hlocks hK hP hD hS dX4_number_91 hQ (by rw [← ho]) rfl
              · have hm := if_f hs1 hm
                by_cases hs2 : v2 = (2 : Int32)
                · have hm := if_t hs2 hm
                  refine k_tIn (tgt := 92) hx hb (2 : Int32) hs2 dX4_number_61 (by decide) rfl (by decide) ?_
                  refine lv_bipush (v := (12 : Int32)) hx hb dX4_number_92 (by decide) ?_
                  refine lv_iload_n hx hb dX4_number_94 rfl (lv_at hl 3 rfl) ?_
                  refine lv_imul hx hb dX4_number_95 ?_
                  refine lv_iload_n hx hb dX4_number_96 rfl (lv_at hl 4 rfl) ?_
                  refine lv_iadd hx hb dX4_number_97 ?_
                  have ho := Option.some.inj hm
                  exact k_iret hx hb hr hlocks hK hP hD hS dX4_number_98 hQ (by rw [← ho]) rfl
                · have hm := if_f hs2 hm
                  refine k_tOut (tgt := 99) hx hb dX4_number_61 (fun k h1 h2 => ?_) (by decide) ?_
                  · have h3 : k = 0 ∨ k = 1 ∨ k = 2 := by omega
                    rcases h3 with rfl | rfl | rfl
                    · exact hs0
                    · exact hs1
                    · exact hs2
                  · have hm := hm
                    refine lv_bipush (v := (12 : Int32)) hx hb dX4_number_99 (by decide) ?_
                    refine lv_iload_n hx hb dX4_number_101 rfl (lv_at hl 3 rfl) ?_
                    refine lv_imul hx hb dX4_number_102 ?_
                    refine lv_iload_n hx hb dX4_number_103 rfl (lv_at hl 4 rfl) ?_
                    refine lv_iadd hx hb dX4_number_104 ?_
                    refine lv_bipush (v := (12 : Int32)) hx hb dX4_number_105 (by decide) ?_
                    refine lv_imul hx hb dX4_number_107 ?_
                    refine lv_iload hx hb dX4_number_108 (lv_at hl 5 rfl) ?_
                    refine lv_iadd hx hb dX4_number_110 ?_
                    refine lv_topi (fun v5 ev5 => ?_)
                    have hm := lt_at ev5 hm
                    have ho := Option.some.inj hm
                    exact k_iret hx hb hr hlocks hK hP hD hS dX4_number_111 hQ (by rw [← ho]) rfl
          · have hm := if_t hc hm
            refine lv_iconst (v := (-1 : Int32)) hx hb dX4_number_57 (by decide) ?_
            have ho := Option.some.inj hm
            exact k_iret hx hb hr hlocks hK hP hD hS dX4_number_58 hQ (by rw [← ho]) rfl
      · have hm := if_f hc hm
        refine lv_iload_n hx hb dX4_number_36 rfl (lv_at hl 4 rfl) ?_
        obtain ⟨z6, hz6, hm⟩ := bd_at hm
        refine k_callS (As := [.int x2]) (rest := []) (wr := [(t, .inr (4, [.ref t_kind_a, .ref t_place_a, .ref t_who_a, .ref t_width_a, .ref t_term_a, .ref t_start_a, .int t_size, .int t_rules, .ref t_sort_a, .ref t_arity_a, .ref t_stratum_a, .ref t_reach_a])), (t_sort_a, .inl (cI, 10, .inl t_sort)), (t_arity_a, .inl (cI, 10, .inl t_arity))]) (ws1 := [(t, .inr (4, [.ref t_kind_a, .ref t_place_a, .ref t_who_a, .ref t_width_a, .ref t_term_a, .ref t_start_a, .int t_size, .int t_rules, .ref t_sort_a, .ref t_arity_a, .ref t_stratum_a, .ref t_reach_a])), (t_sort_a, .inl (cI, 10, .inl t_sort)), (t_arity_a, .inl (cI, 10, .inl t_arity))]) [] [0, 1, 2] [0, 1, 2] (K_Program_isConstant l D cB cI cZ cJ x2 z6 hz6) ms_X4_isConstant km_X4_75 hx hb hml hown hts hK hP hD hS hA hl.1 ⟨Nat.zero_le _, Nat.zero_le _⟩ dX4_number_37 rfl rfl (Nat.le_of_ble_eq_true rfl) ⟨⟨rfl, rfl⟩, Nat.le_of_ble_eq_true rfl, Nat.le_of_ble_eq_true rfl⟩ rfl rfl (by decide) rfl (fun H locs hP hD hS => ?_)
        have hP : va_P D vwCl [(t, .inr (4, [.ref t_kind_a, .ref t_place_a, .ref t_who_a, .ref t_width_a, .ref t_term_a, .ref t_start_a, .int t_size, .int t_rules, .ref t_sort_a, .ref t_arity_a, .ref t_stratum_a, .ref t_reach_a])), (t_sort_a, .inl (cI, 10, .inl t_sort)), (t_arity_a, .inl (cI, 10, .inl t_arity))] H := hP
        have hD : va_D A [(t, .inr (4, [.ref t_kind_a, .ref t_place_a, .ref t_who_a, .ref t_width_a, .ref t_term_a, .ref t_start_a, .int t_size, .int t_rules, .ref t_sort_a, .ref t_arity_a, .ref t_stratum_a, .ref t_reach_a])), (t_sort_a, .inl (cI, 10, .inl t_sort)), (t_arity_a, .inl (cI, 10, .inl t_arity))] := hD
        refine lv_if_eq (tgt := 57) hx hb dX4_number_40 (by decide) (fun hc => ?_) (fun hc => ?_)
        · have hm := if_t hc hm
          refine lv_iconst (v := (-1 : Int32)) hx hb dX4_number_57 (by decide) ?_
          have ho := Option.some.inj hm
          exact k_iret hx hb hr hlocks hK hP hD hS dX4_number_58 hQ (by rw [← ho]) rfl
        · have hm := if_f hc hm
          refine lv_iload hx hb dX4_number_43 (lv_at hl 0 rfl) ?_
          refine lv_iconst (v := (2 : Int32)) hx hb dX4_number_45 (by decide) ?_
          refine lv_icmp_le (tgt := 59) hx hb dX4_number_46 (by decide) (fun hc => ?_) (fun hc => ?_)
          · have hm := if_t hc hm
            refine lv_iload hx hb dX4_number_59 (lv_at hl 0 rfl) ?_
            by_cases hs0 : v2 = (0 : Int32)
            · have hm := if_t hs0 hm
              refine k_tIn (tgt := 88) hx hb (0 : Int32) hs0 dX4_number_61 (by decide) rfl (by decide) ?_
              refine lv_iconst (v := (0 : Int32)) hx hb dX4_number_88 (by decide) ?_
              have ho := Option.some.inj hm
              exact k_iret hx hb hr hlocks hK hP hD hS dX4_number_89 hQ (by rw [← ho]) rfl
            · have hm := if_f hs0 hm
              by_cases hs1 : v2 = (1 : Int32)
              · have hm := if_t hs1 hm
                refine k_tIn (tgt := 90) hx hb (1 : Int32) hs1 dX4_number_61 (by decide) rfl (by decide) ?_
                refine lv_iload_n hx hb dX4_number_90 rfl (lv_at hl 3 rfl) ?_
                have ho := Option.some.inj hm
                exact k_iret hx hb hr hlocks hK hP hD hS dX4_number_91 hQ (by rw [← ho]) rfl
              · have hm := if_f hs1 hm
                by_cases hs2 : v2 = (2 : Int32)
                · have hm := if_t hs2 hm
                  refine k_tIn (tgt := 92) hx hb (2 : Int32) hs2 dX4_number_61 (by decide) rfl (by decide) ?_
                  refine lv_bipush (v := (12 : Int32)) hx hb dX4_number_92 (by decide) ?_
                  refine lv_iload_n hx hb dX4_number_94 rfl (lv_at hl 3 rfl) ?_
                  refine lv_imul hx hb dX4_number_95 ?_
                  refine lv_iload_n hx hb dX4_number_96 rfl (lv_at hl 4 rfl) ?_
                  refine lv_iadd hx hb dX4_number_97 ?_
                  have ho := Option.some.inj hm
                  exact k_iret hx hb hr hlocks hK hP hD hS dX4_number_98 hQ (by rw [← ho]) rfl
                · have hm := if_f hs2 hm
                  refine k_tOut (tgt := 99) hx hb dX4_number_61 (fun k h1 h2 => ?_) (by decide) ?_
                  · have h3 : k = 0 ∨ k = 1 ∨ k = 2 := by omega
                    rcases h3 with rfl | rfl | rfl
                    · exact hs0
                    · exact hs1
                    · exact hs2
                  · have hm := hm
                    refine lv_bipush (v := (12 : Int32)) hx hb dX4_number_99 (by decide) ?_
                    refine lv_iload_n hx hb dX4_number_101 rfl (lv_at hl 3 rfl) ?_
                    refine lv_imul hx hb dX4_number_102 ?_
                    refine lv_iload_n hx hb dX4_number_103 rfl (lv_at hl 4 rfl) ?_
                    refine lv_iadd hx hb dX4_number_104 ?_
                    refine lv_bipush (v := (12 : Int32)) hx hb dX4_number_105 (by decide) ?_
                    refine lv_imul hx hb dX4_number_107 ?_
                    refine lv_iload hx hb dX4_number_108 (lv_at hl 5 rfl) ?_
                    refine lv_iadd hx hb dX4_number_110 ?_
                    refine lv_topi (fun v7 ev7 => ?_)
                    have hm := lt_at ev7 hm
                    have ho := Option.some.inj hm
                    exact k_iret hx hb hr hlocks hK hP hD hS dX4_number_111 hQ (by rw [← ho]) rfl
          · have hm := if_f hc hm
            refine lv_iload hx hb dX4_number_49 (lv_at hl 5 rfl) ?_
            obtain ⟨z8, hz8, hm⟩ := bd_at hm
            refine k_callS (As := [.int x3]) (rest := []) (wr := [(t, .inr (4, [.ref t_kind_a, .ref t_place_a, .ref t_who_a, .ref t_width_a, .ref t_term_a, .ref t_start_a, .int t_size, .int t_rules, .ref t_sort_a, .ref t_arity_a, .ref t_stratum_a, .ref t_reach_a])), (t_sort_a, .inl (cI, 10, .inl t_sort)), (t_arity_a, .inl (cI, 10, .inl t_arity))]) (ws1 := [(t, .inr (4, [.ref t_kind_a, .ref t_place_a, .ref t_who_a, .ref t_width_a, .ref t_term_a, .ref t_start_a, .int t_size, .int t_rules, .ref t_sort_a, .ref t_arity_a, .ref t_stratum_a, .ref t_reach_a])), (t_sort_a, .inl (cI, 10, .inl t_sort)), (t_arity_a, .inl (cI, 10, .inl t_arity))]) [] [0, 1, 2] [0, 1, 2] (K_Program_isConstant l D cB cI cZ cJ x3 z8 hz8) ms_X4_isConstant km_X4_75 hx hb hml hown hts hK hP hD hS hA hl.1 ⟨Nat.zero_le _, Nat.zero_le _⟩ dX4_number_51 rfl rfl (Nat.le_of_ble_eq_true rfl) ⟨⟨rfl, rfl⟩, Nat.le_of_ble_eq_true rfl, Nat.le_of_ble_eq_true rfl⟩ rfl rfl (by decide) rfl (fun H locs hP hD hS => ?_)
            have hP : va_P D vwCl [(t, .inr (4, [.ref t_kind_a, .ref t_place_a, .ref t_who_a, .ref t_width_a, .ref t_term_a, .ref t_start_a, .int t_size, .int t_rules, .ref t_sort_a, .ref t_arity_a, .ref t_stratum_a, .ref t_reach_a])), (t_sort_a, .inl (cI, 10, .inl t_sort)), (t_arity_a, .inl (cI, 10, .inl t_arity))] H := hP
            have hD : va_D A [(t, .inr (4, [.ref t_kind_a, .ref t_place_a, .ref t_who_a, .ref t_width_a, .ref t_term_a, .ref t_start_a, .int t_size, .int t_rules, .ref t_sort_a, .ref t_arity_a, .ref t_stratum_a, .ref t_reach_a])), (t_sort_a, .inl (cI, 10, .inl t_sort)), (t_arity_a, .inl (cI, 10, .inl t_arity))] := hD
            refine lv_if_ne (tgt := 59) hx hb dX4_number_54 (by decide) (fun hc => ?_) (fun hc => ?_)
            · have hm := if_f hc hm
              refine lv_iload hx hb dX4_number_59 (lv_at hl 0 rfl) ?_
              by_cases hs0 : v2 = (0 : Int32)
              · have hm := if_t hs0 hm
                refine k_tIn (tgt := 88) hx hb (0 : Int32) hs0 dX4_number_61 (by decide) rfl (by decide) ?_
                refine lv_iconst (v := (0 : Int32)) hx hb dX4_number_88 (by decide) ?_
                have ho := Option.some.inj hm
                exact k_iret hx hb hr hlocks hK hP hD hS dX4_number_89 hQ (by rw [← ho]) rfl
              · have hm := if_f hs0 hm
                by_cases hs1 : v2 = (1 : Int32)
                · have hm := if_t hs1 hm
                  refine k_tIn (tgt := 90) hx hb (1 : Int32) hs1 dX4_number_61 (by decide) rfl (by decide) ?_
                  refine lv_iload_n hx hb dX4_number_90 rfl (lv_at hl 3 rfl) ?_
                  have ho := Option.some.inj hm
                  exact k_iret hx hb hr hlocks hK hP hD hS dX4_number_91 hQ (by rw [← ho]) rfl
                · have hm := if_f hs1 hm
                  by_cases hs2 : v2 = (2 : Int32)
                  · have hm := if_t hs2 hm
                    refine k_tIn (tgt := 92) hx hb (2 : Int32) hs2 dX4_number_61 (by decide) rfl (by decide) ?_
                    refine lv_bipush (v := (12 : Int32)) hx hb dX4_number_92 (by decide) ?_
                    refine lv_iload_n hx hb dX4_number_94 rfl (lv_at hl 3 rfl) ?_
                    refine lv_imul hx hb dX4_number_95 ?_
                    refine lv_iload_n hx hb dX4_number_96 rfl (lv_at hl 4 rfl) ?_
                    refine lv_iadd hx hb dX4_number_97 ?_
                    have ho := Option.some.inj hm
                    exact k_iret hx hb hr hlocks hK hP hD hS dX4_number_98 hQ (by rw [← ho]) rfl
                  · have hm := if_f hs2 hm
                    refine k_tOut (tgt := 99) hx hb dX4_number_61 (fun k h1 h2 => ?_) (by decide) ?_
                    · have h3 : k = 0 ∨ k = 1 ∨ k = 2 := by omega
                      rcases h3 with rfl | rfl | rfl
                      · exact hs0
                      · exact hs1
                      · exact hs2
                    · have hm := hm
                      refine lv_bipush (v := (12 : Int32)) hx hb dX4_number_99 (by decide) ?_
                      refine lv_iload_n hx hb dX4_number_101 rfl (lv_at hl 3 rfl) ?_
                      refine lv_imul hx hb dX4_number_102 ?_
                      refine lv_iload_n hx hb dX4_number_103 rfl (lv_at hl 4 rfl) ?_
                      refine lv_iadd hx hb dX4_number_104 ?_
                      refine lv_bipush (v := (12 : Int32)) hx hb dX4_number_105 (by decide) ?_
                      refine lv_imul hx hb dX4_number_107 ?_
                      refine lv_iload hx hb dX4_number_108 (lv_at hl 5 rfl) ?_
                      refine lv_iadd hx hb dX4_number_110 ?_
                      refine lv_topi (fun v9 ev9 => ?_)
                      have hm := lt_at ev9 hm
                      have ho := Option.some.inj hm
                      exact k_iret hx hb hr hlocks hK hP hD hS dX4_number_111 hQ (by rw [← ho]) rfl
            · have hm := if_t hc hm
              refine lv_iconst (v := (-1 : Int32)) hx hb dX4_number_57 (by decide) ?_
              have ho := Option.some.inj hm
              exact k_iret hx hb hr hlocks hK hP hD hS dX4_number_58 hQ (by rw [← ho]) rfl
    · have hm := if_f hc hm
      refine lv_iload_n hx hb dX4_number_23 rfl (lv_at hl 3 rfl) ?_
      obtain ⟨z10, hz10, hm⟩ := bd_at hm
      refine k_callS (As := [.int x1]) (rest := []) (wr := [(t, .inr (4, [.ref t_kind_a, .ref t_place_a, .ref t_who_a, .ref t_width_a, .ref t_term_a, .ref t_start_a, .int t_size, .int t_rules, .ref t_sort_a, .ref t_arity_a, .ref t_stratum_a, .ref t_reach_a])), (t_sort_a, .inl (cI, 10, .inl t_sort)), (t_arity_a, .inl (cI, 10, .inl t_arity))]) (ws1 := [(t, .inr (4, [.ref t_kind_a, .ref t_place_a, .ref t_who_a, .ref t_width_a, .ref t_term_a, .ref t_start_a, .int t_size, .int t_rules, .ref t_sort_a, .ref t_arity_a, .ref t_stratum_a, .ref t_reach_a])), (t_sort_a, .inl (cI, 10, .inl t_sort)), (t_arity_a, .inl (cI, 10, .inl t_arity))]) [] [0, 1, 2] [0, 1, 2] (K_Program_isConstant l D cB cI cZ cJ x1 z10 hz10) ms_X4_isConstant km_X4_75 hx hb hml hown hts hK hP hD hS hA hl.1 ⟨Nat.zero_le _, Nat.zero_le _⟩ dX4_number_24 rfl rfl (Nat.le_of_ble_eq_true rfl) ⟨⟨rfl, rfl⟩, Nat.le_of_ble_eq_true rfl, Nat.le_of_ble_eq_true rfl⟩ rfl rfl (by decide) rfl (fun H locs hP hD hS => ?_)
      have hP : va_P D vwCl [(t, .inr (4, [.ref t_kind_a, .ref t_place_a, .ref t_who_a, .ref t_width_a, .ref t_term_a, .ref t_start_a, .int t_size, .int t_rules, .ref t_sort_a, .ref t_arity_a, .ref t_stratum_a, .ref t_reach_a])), (t_sort_a, .inl (cI, 10, .inl t_sort)), (t_arity_a, .inl (cI, 10, .inl t_arity))] H := hP
      have hD : va_D A [(t, .inr (4, [.ref t_kind_a, .ref t_place_a, .ref t_who_a, .ref t_width_a, .ref t_term_a, .ref t_start_a, .int t_size, .int t_rules, .ref t_sort_a, .ref t_arity_a, .ref t_stratum_a, .ref t_reach_a])), (t_sort_a, .inl (cI, 10, .inl t_sort)), (t_arity_a, .inl (cI, 10, .inl t_arity))] := hD
      refine lv_if_eq (tgt := 57) hx hb dX4_number_27 (by decide) (fun hc => ?_) (fun hc => ?_)
      · have hm := if_t hc hm
        refine lv_iconst (v := (-1 : Int32)) hx hb dX4_number_57 (by decide) ?_
        have ho := Option.some.inj hm
        exact k_iret hx hb hr hlocks hK hP hD hS dX4_number_58 hQ (by rw [← ho]) rfl
      · have hm := if_f hc hm
        refine lv_iload hx hb dX4_number_30 (lv_at hl 0 rfl) ?_
        refine lv_iconst (v := (1 : Int32)) hx hb dX4_number_32 (by decide) ?_
        refine lv_icmp_le (tgt := 43) hx hb dX4_number_33 (by decide) (fun hc => ?_) (fun hc => ?_)
        · have hm := if_t hc hm
          refine lv_iload hx hb dX4_number_43 (lv_at hl 0 rfl) ?_
          refine lv_iconst (v := (2 : Int32)) hx hb dX4_number_45 (by decide) ?_
          refine lv_icmp_le (tgt := 59) hx hb dX4_number_46 (by decide) (fun hc => ?_) (fun hc => ?_)
          · have hm := if_t hc hm
            refine lv_iload hx hb dX4_number_59 (lv_at hl 0 rfl) ?_
            by_cases hs0 : v2 = (0 : Int32)
            · have hm := if_t hs0 hm
              refine k_tIn (tgt := 88) hx hb (0 : Int32) hs0 dX4_number_61 (by decide) rfl (by decide) ?_
              refine lv_iconst (v := (0 : Int32)) hx hb dX4_number_88 (by decide) ?_
              have ho := Option.some.inj hm
              exact k_iret hx hb hr hlocks hK hP hD hS dX4_number_89 hQ (by rw [← ho]) rfl
            · have hm := if_f hs0 hm
              by_cases hs1 : v2 = (1 : Int32)
              · have hm := if_t hs1 hm
                refine k_tIn (tgt := 90) hx hb (1 : Int32) hs1 dX4_number_61 (by decide) rfl (by decide) ?_
                refine lv_iload_n hx hb dX4_number_90 rfl (lv_at hl 3 rfl) ?_
                have ho := Option.some.inj hm
                exact k_iret hx hb hr hlocks hK hP hD hS dX4_number_91 hQ (by rw [← ho]) rfl
              · have hm := if_f hs1 hm
                by_cases hs2 : v2 = (2 : Int32)
                · have hm := if_t hs2 hm
                  refine k_tIn (tgt := 92) hx hb (2 : Int32) hs2 dX4_number_61 (by decide) rfl (by decide) ?_
                  refine lv_bipush (v := (12 : Int32)) hx hb dX4_number_92 (by decide) ?_
                  refine lv_iload_n hx hb dX4_number_94 rfl (lv_at hl 3 rfl) ?_
                  refine lv_imul hx hb dX4_number_95 ?_
                  refine lv_iload_n hx hb dX4_number_96 rfl (lv_at hl 4 rfl) ?_
                  refine lv_iadd hx hb dX4_number_97 ?_
                  have ho := Option.some.inj hm
                  exact k_iret hx hb hr hlocks hK hP hD hS dX4_number_98 hQ (by rw [← ho]) rfl
                · have hm := if_f hs2 hm
                  refine k_tOut (tgt := 99) hx hb dX4_number_61 (fun k h1 h2 => ?_) (by decide) ?_
                  · have h3 : k = 0 ∨ k = 1 ∨ k = 2 := by omega
                    rcases h3 with rfl | rfl | rfl
                    · exact hs0
                    · exact hs1
                    · exact hs2
                  · have hm := hm
                    refine lv_bipush (v := (12 : Int32)) hx hb dX4_number_99 (by decide) ?_
                    refine lv_iload_n hx hb dX4_number_101 rfl (lv_at hl 3 rfl) ?_
                    refine lv_imul hx hb dX4_number_102 ?_
                    refine lv_iload_n hx hb dX4_number_103 rfl (lv_at hl 4 rfl) ?_
                    refine lv_iadd hx hb dX4_number_104 ?_
                    refine lv_bipush (v := (12 : Int32)) hx hb dX4_number_105 (by decide) ?_
                    refine lv_imul hx hb dX4_number_107 ?_
                    refine lv_iload hx hb dX4_number_108 (lv_at hl 5 rfl) ?_
                    refine lv_iadd hx hb dX4_number_110 ?_
                    refine lv_topi (fun v11 ev11 => ?_)
                    have hm := lt_at ev11 hm
                    have ho := Option.some.inj hm
                    exact k_iret hx hb hr hlocks hK hP hD hS dX4_number_111 hQ (by rw [← ho]) rfl
          · have hm := if_f hc hm
            refine lv_iload hx hb dX4_number_49 (lv_at hl 5 rfl) ?_
            obtain ⟨z12, hz12, hm⟩ := bd_at hm
            refine k_callS (As := [.int x3]) (rest := []) (wr := [(t, .inr (4, [.ref t_kind_a, .ref t_place_a, .ref t_who_a, .ref t_width_a, .ref t_term_a, .ref t_start_a, .int t_size, .int t_rules, .ref t_sort_a, .ref t_arity_a, .ref t_stratum_a, .ref t_reach_a])), (t_sort_a, .inl (cI, 10, .inl t_sort)), (t_arity_a, .inl (cI, 10, .inl t_arity))]) (ws1 := [(t, .inr (4, [.ref t_kind_a, .ref t_place_a, .ref t_who_a, .ref t_width_a, .ref t_term_a, .ref t_start_a, .int t_size, .int t_rules, .ref t_sort_a, .ref t_arity_a, .ref t_stratum_a, .ref t_reach_a])), (t_sort_a, .inl (cI, 10, .inl t_sort)), (t_arity_a, .inl (cI, 10, .inl t_arity))]) [] [0, 1, 2] [0, 1, 2] (K_Program_isConstant l D cB cI cZ cJ x3 z12 hz12) ms_X4_isConstant km_X4_75 hx hb hml hown hts hK hP hD hS hA hl.1 ⟨Nat.zero_le _, Nat.zero_le _⟩ dX4_number_51 rfl rfl (Nat.le_of_ble_eq_true rfl) ⟨⟨rfl, rfl⟩, Nat.le_of_ble_eq_true rfl, Nat.le_of_ble_eq_true rfl⟩ rfl rfl (by decide) rfl (fun H locs hP hD hS => ?_)
            have hP : va_P D vwCl [(t, .inr (4, [.ref t_kind_a, .ref t_place_a, .ref t_who_a, .ref t_width_a, .ref t_term_a, .ref t_start_a, .int t_size, .int t_rules, .ref t_sort_a, .ref t_arity_a, .ref t_stratum_a, .ref t_reach_a])), (t_sort_a, .inl (cI, 10, .inl t_sort)), (t_arity_a, .inl (cI, 10, .inl t_arity))] H := hP
            have hD : va_D A [(t, .inr (4, [.ref t_kind_a, .ref t_place_a, .ref t_who_a, .ref t_width_a, .ref t_term_a, .ref t_start_a, .int t_size, .int t_rules, .ref t_sort_a, .ref t_arity_a, .ref t_stratum_a, .ref t_reach_a])), (t_sort_a, .inl (cI, 10, .inl t_sort)), (t_arity_a, .inl (cI, 10, .inl t_arity))] := hD
            refine lv_if_ne (tgt := 59) hx hb dX4_number_54 (by decide) (fun hc => ?_) (fun hc => ?_)
            · have hm := if_f hc hm
              refine lv_iload hx hb dX4_number_59 (lv_at hl 0 rfl) ?_
              by_cases hs0 : v2 = (0 : Int32)
              · have hm := if_t hs0 hm
                refine k_tIn (tgt := 88) hx hb (0 : Int32) hs0 dX4_number_61 (by decide) rfl (by decide) ?_
                refine lv_iconst (v := (0 : Int32)) hx hb dX4_number_88 (by decide) ?_
                have ho := Option.some.inj hm
                exact k_iret hx hb hr hlocks hK hP hD hS dX4_number_89 hQ (by rw [← ho]) rfl
              · have hm := if_f hs0 hm
                by_cases hs1 : v2 = (1 : Int32)
                · have hm := if_t hs1 hm
                  refine k_tIn (tgt := 90) hx hb (1 : Int32) hs1 dX4_number_61 (by decide) rfl (by decide) ?_
                  refine lv_iload_n hx hb dX4_number_90 rfl (lv_at hl 3 rfl) ?_
                  have ho := Option.some.inj hm
                  exact k_iret hx hb hr hlocks hK hP hD hS dX4_number_91 hQ (by rw [← ho]) rfl
                · have hm := if_f hs1 hm
                  by_cases hs2 : v2 = (2 : Int32)
                  · have hm := if_t hs2 hm
                    refine k_tIn (tgt := 92) hx hb (2 : Int32) hs2 dX4_number_61 (by decide) rfl (by decide) ?_
                    refine lv_bipush (v := (12 : Int32)) hx hb dX4_number_92 (by decide) ?_
                    refine lv_iload_n hx hb dX4_number_94 rfl (lv_at hl 3 rfl) ?_
                    refine lv_imul hx hb dX4_number_95 ?_
                    refine lv_iload_n hx hb dX4_number_96 rfl (lv_at hl 4 rfl) ?_
                    refine lv_iadd hx hb dX4_number_97 ?_
                    have ho := Option.some.inj hm
                    exact k_iret hx hb hr hlocks hK hP hD hS dX4_number_98 hQ (by rw [← ho]) rfl
                  · have hm := if_f hs2 hm
                    refine k_tOut (tgt := 99) hx hb dX4_number_61 (fun k h1 h2 => ?_) (by decide) ?_
                    · have h3 : k = 0 ∨ k = 1 ∨ k = 2 := by omega
                      rcases h3 with rfl | rfl | rfl
                      · exact hs0
                      · exact hs1
                      · exact hs2
                    · have hm := hm
                      refine lv_bipush (v := (12 : Int32)) hx hb dX4_number_99 (by decide) ?_
                      refine lv_iload_n hx hb dX4_number_101 rfl (lv_at hl 3 rfl) ?_
                      refine lv_imul hx hb dX4_number_102 ?_
                      refine lv_iload_n hx hb dX4_number_103 rfl (lv_at hl 4 rfl) ?_
                      refine lv_iadd hx hb dX4_number_104 ?_
                      refine lv_bipush (v := (12 : Int32)) hx hb dX4_number_105 (by decide) ?_
                      refine lv_imul hx hb dX4_number_107 ?_
                      refine lv_iload hx hb dX4_number_108 (lv_at hl 5 rfl) ?_
                      refine lv_iadd hx hb dX4_number_110 ?_
                      refine lv_topi (fun v13 ev13 => ?_)
                      have hm := lt_at ev13 hm
                      have ho := Option.some.inj hm
                      exact k_iret hx hb hr hlocks hK hP hD hS dX4_number_111 hQ (by rw [← ho]) rfl
            · have hm := if_t hc hm
              refine lv_iconst (v := (-1 : Int32)) hx hb dX4_number_57 (by decide) ?_
              have ho := Option.some.inj hm
              exact k_iret hx hb hr hlocks hK hP hD hS dX4_number_58 hQ (by rw [← ho]) rfl
        · have hm := if_f hc hm
          refine lv_iload_n hx hb dX4_number_36 rfl (lv_at hl 4 rfl) ?_
          obtain ⟨z14, hz14, hm⟩ := bd_at hm
          refine k_callS (As := [.int x2]) (rest := []) (wr := [(t, .inr (4, [.ref t_kind_a, .ref t_place_a, .ref t_who_a, .ref t_width_a, .ref t_term_a, .ref t_start_a, .int t_size, .int t_rules, .ref t_sort_a, .ref t_arity_a, .ref t_stratum_a, .ref t_reach_a])), (t_sort_a, .inl (cI, 10, .inl t_sort)), (t_arity_a, .inl (cI, 10, .inl t_arity))]) (ws1 := [(t, .inr (4, [.ref t_kind_a, .ref t_place_a, .ref t_who_a, .ref t_width_a, .ref t_term_a, .ref t_start_a, .int t_size, .int t_rules, .ref t_sort_a, .ref t_arity_a, .ref t_stratum_a, .ref t_reach_a])), (t_sort_a, .inl (cI, 10, .inl t_sort)), (t_arity_a, .inl (cI, 10, .inl t_arity))]) [] [0, 1, 2] [0, 1, 2] (K_Program_isConstant l D cB cI cZ cJ x2 z14 hz14) ms_X4_isConstant km_X4_75 hx hb hml hown hts hK hP hD hS hA hl.1 ⟨Nat.zero_le _, Nat.zero_le _⟩ dX4_number_37 rfl rfl (Nat.le_of_ble_eq_true rfl) ⟨⟨rfl, rfl⟩, Nat.le_of_ble_eq_true rfl, Nat.le_of_ble_eq_true rfl⟩ rfl rfl (by decide) rfl (fun H locs hP hD hS => ?_)
          have hP : va_P D vwCl [(t, .inr (4, [.ref t_kind_a, .ref t_place_a, .ref t_who_a, .ref t_width_a, .ref t_term_a, .ref t_start_a, .int t_size, .int t_rules, .ref t_sort_a, .ref t_arity_a, .ref t_stratum_a, .ref t_reach_a])), (t_sort_a, .inl (cI, 10, .inl t_sort)), (t_arity_a, .inl (cI, 10, .inl t_arity))] H := hP
          have hD : va_D A [(t, .inr (4, [.ref t_kind_a, .ref t_place_a, .ref t_who_a, .ref t_width_a, .ref t_term_a, .ref t_start_a, .int t_size, .int t_rules, .ref t_sort_a, .ref t_arity_a, .ref t_stratum_a, .ref t_reach_a])), (t_sort_a, .inl (cI, 10, .inl t_sort)), (t_arity_a, .inl (cI, 10, .inl t_arity))] := hD
          refine lv_if_eq (tgt := 57) hx hb dX4_number_40 (by decide) (fun hc => ?_) (fun hc => ?_)
          · have hm := if_t hc hm
            refine lv_iconst (v := (-1 : Int32)) hx hb dX4_number_57 (by decide) ?_
            have ho := Option.some.inj hm
            exact k_iret hx hb hr hlocks hK hP hD hS dX4_number_58 hQ (by rw [← ho]) rfl
          · have hm := if_f hc hm
            refine lv_iload hx hb dX4_number_43 (lv_at hl 0 rfl) ?_
            refine lv_iconst (v := (2 : Int32)) hx hb dX4_number_45 (by decide) ?_
            refine lv_icmp_le (tgt := 59) hx hb dX4_number_46 (by decide) (fun hc => ?_) (fun hc => ?_)
            · have hm := if_t hc hm
              refine lv_iload hx hb dX4_number_59 (lv_at hl 0 rfl) ?_
              by_cases hs0 : v2 = (0 : Int32)
              · have hm := if_t hs0 hm
                refine k_tIn (tgt := 88) hx hb (0 : Int32) hs0 dX4_number_61 (by decide) rfl (by decide) ?_
                refine lv_iconst (v := (0 : Int32)) hx hb dX4_number_88 (by decide) ?_
                have ho := Option.some.inj hm
                exact k_iret hx hb hr hlocks hK hP hD hS dX4_number_89 hQ (by rw [← ho]) rfl
              · have hm := if_f hs0 hm
                by_cases hs1 : v2 = (1 : Int32)
                · have hm := if_t hs1 hm
                  refine k_tIn (tgt := 90) hx hb (1 : Int32) hs1 dX4_number_61 (by decide) rfl (by decide) ?_
                  refine lv_iload_n hx hb dX4_number_90 rfl (lv_at hl 3 rfl) ?_
                  have ho := Option.some.inj hm
                  exact k_iret hx hb hr hlocks hK hP hD hS dX4_number_91 hQ (by rw [← ho]) rfl
                · have hm := if_f hs1 hm
                  by_cases hs2 : v2 = (2 : Int32)
                  · have hm := if_t hs2 hm
                    refine k_tIn (tgt := 92) hx hb (2 : Int32) hs2 dX4_number_61 (by decide) rfl (by decide) ?_
                    refine lv_bipush (v := (12 : Int32)) hx hb dX4_number_92 (by decide) ?_
                    refine lv_iload_n hx hb dX4_number_94 rfl (lv_at hl 3 rfl) ?_
                    refine lv_imul hx hb dX4_number_95 ?_
                    refine lv_iload_n hx hb dX4_number_96 rfl (lv_at hl 4 rfl) ?_
                    refine lv_iadd hx hb dX4_number_97 ?_
                    have ho := Option.some.inj hm
                    exact k_iret hx hb hr hlocks hK hP hD hS dX4_number_98 hQ (by rw [← ho]) rfl
                  · have hm := if_f hs2 hm
                    refine k_tOut (tgt := 99) hx hb dX4_number_61 (fun k h1 h2 => ?_) (by decide) ?_
                    · have h3 : k = 0 ∨ k = 1 ∨ k = 2 := by omega
                      rcases h3 with rfl | rfl | rfl
                      · exact hs0
                      · exact hs1
                      · exact hs2
                    · have hm := hm
                      refine lv_bipush (v := (12 : Int32)) hx hb dX4_number_99 (by decide) ?_
                      refine lv_iload_n hx hb dX4_number_101 rfl (lv_at hl 3 rfl) ?_
                      refine lv_imul hx hb dX4_number_102 ?_
                      refine lv_iload_n hx hb dX4_number_103 rfl (lv_at hl 4 rfl) ?_
                      refine lv_iadd hx hb dX4_number_104 ?_
                      refine lv_bipush (v := (12 : Int32)) hx hb dX4_number_105 (by decide) ?_
                      refine lv_imul hx hb dX4_number_107 ?_
                      refine lv_iload hx hb dX4_number_108 (lv_at hl 5 rfl) ?_
                      refine lv_iadd hx hb dX4_number_110 ?_
                      refine lv_topi (fun v15 ev15 => ?_)
                      have hm := lt_at ev15 hm
                      have ho := Option.some.inj hm
                      exact k_iret hx hb hr hlocks hK hP hD hS dX4_number_111 hQ (by rw [← ho]) rfl
            · have hm := if_f hc hm
              refine lv_iload hx hb dX4_number_49 (lv_at hl 5 rfl) ?_
              obtain ⟨z16, hz16, hm⟩ := bd_at hm
              refine k_callS (As := [.int x3]) (rest := []) (wr := [(t, .inr (4, [.ref t_kind_a, .ref t_place_a, .ref t_who_a, .ref t_width_a, .ref t_term_a, .ref t_start_a, .int t_size, .int t_rules, .ref t_sort_a, .ref t_arity_a, .ref t_stratum_a, .ref t_reach_a])), (t_sort_a, .inl (cI, 10, .inl t_sort)), (t_arity_a, .inl (cI, 10, .inl t_arity))]) (ws1 := [(t, .inr (4, [.ref t_kind_a, .ref t_place_a, .ref t_who_a, .ref t_width_a, .ref t_term_a, .ref t_start_a, .int t_size, .int t_rules, .ref t_sort_a, .ref t_arity_a, .ref t_stratum_a, .ref t_reach_a])), (t_sort_a, .inl (cI, 10, .inl t_sort)), (t_arity_a, .inl (cI, 10, .inl t_arity))]) [] [0, 1, 2] [0, 1, 2] (K_Program_isConstant l D cB cI cZ cJ x3 z16 hz16) ms_X4_isConstant km_X4_75 hx hb hml hown hts hK hP hD hS hA hl.1 ⟨Nat.zero_le _, Nat.zero_le _⟩ dX4_number_51 rfl rfl (Nat.le_of_ble_eq_true rfl) ⟨⟨rfl, rfl⟩, Nat.le_of_ble_eq_true rfl, Nat.le_of_ble_eq_true rfl⟩ rfl rfl (by decide) rfl (fun H locs hP hD hS => ?_)
              have hP : va_P D vwCl [(t, .inr (4, [.ref t_kind_a, .ref t_place_a, .ref t_who_a, .ref t_width_a, .ref t_term_a, .ref t_start_a, .int t_size, .int t_rules, .ref t_sort_a, .ref t_arity_a, .ref t_stratum_a, .ref t_reach_a])), (t_sort_a, .inl (cI, 10, .inl t_sort)), (t_arity_a, .inl (cI, 10, .inl t_arity))] H := hP
              have hD : va_D A [(t, .inr (4, [.ref t_kind_a, .ref t_place_a, .ref t_who_a, .ref t_width_a, .ref t_term_a, .ref t_start_a, .int t_size, .int t_rules, .ref t_sort_a, .ref t_arity_a, .ref t_stratum_a, .ref t_reach_a])), (t_sort_a, .inl (cI, 10, .inl t_sort)), (t_arity_a, .inl (cI, 10, .inl t_arity))] := hD
              refine lv_if_ne (tgt := 59) hx hb dX4_number_54 (by decide) (fun hc => ?_) (fun hc => ?_)
              · have hm := if_f hc hm
                refine lv_iload hx hb dX4_number_59 (lv_at hl 0 rfl) ?_
                by_cases hs0 : v2 = (0 : Int32)
                · have hm := if_t hs0 hm
                  refine k_tIn (tgt := 88) hx hb (0 : Int32) hs0 dX4_number_61 (by decide) rfl (by decide) ?_
                  refine lv_iconst (v := (0 : Int32)) hx hb dX4_number_88 (by decide) ?_
                  have ho := Option.some.inj hm
                  exact k_iret hx hb hr hlocks hK hP hD hS dX4_number_89 hQ (by rw [← ho]) rfl
                · have hm := if_f hs0 hm
                  by_cases hs1 : v2 = (1 : Int32)
                  · have hm := if_t hs1 hm
                    refine k_tIn (tgt := 90) hx hb (1 : Int32) hs1 dX4_number_61 (by decide) rfl (by decide) ?_
                    refine lv_iload_n hx hb dX4_number_90 rfl (lv_at hl 3 rfl) ?_
                    have ho := Option.some.inj hm
                    exact k_iret hx hb hr hlocks hK hP hD hS dX4_number_91 hQ (by rw [← ho]) rfl
                  · have hm := if_f hs1 hm
                    by_cases hs2 : v2 = (2 : Int32)
                    · have hm := if_t hs2 hm
                      refine k_tIn (tgt := 92) hx hb (2 : Int32) hs2 dX4_number_61 (by decide) rfl (by decide) ?_
                      refine lv_bipush (v := (12 : Int32)) hx hb dX4_number_92 (by decide) ?_
                      refine lv_iload_n hx hb dX4_number_94 rfl (lv_at hl 3 rfl) ?_
                      refine lv_imul hx hb dX4_number_95 ?_
                      refine lv_iload_n hx hb dX4_number_96 rfl (lv_at hl 4 rfl) ?_
                      refine lv_iadd hx hb dX4_number_97 ?_
                      have ho := Option.some.inj hm
                      exact k_iret hx hb hr hlocks hK hP hD hS dX4_number_98 hQ (by rw [← ho]) rfl
                    · have hm := if_f hs2 hm
                      refine k_tOut (tgt := 99) hx hb dX4_number_61 (fun k h1 h2 => ?_) (by decide) ?_
                      · have h3 : k = 0 ∨ k = 1 ∨ k = 2 := by omega
                        rcases h3 with rfl | rfl | rfl
                        · exact hs0
                        · exact hs1
                        · exact hs2
                      · have hm := hm
                        refine lv_bipush (v := (12 : Int32)) hx hb dX4_number_99 (by decide) ?_
                        refine lv_iload_n hx hb dX4_number_101 rfl (lv_at hl 3 rfl) ?_
                        refine lv_imul hx hb dX4_number_102 ?_
                        refine lv_iload_n hx hb dX4_number_103 rfl (lv_at hl 4 rfl) ?_
                        refine lv_iadd hx hb dX4_number_104 ?_
                        refine lv_bipush (v := (12 : Int32)) hx hb dX4_number_105 (by decide) ?_
                        refine lv_imul hx hb dX4_number_107 ?_
                        refine lv_iload hx hb dX4_number_108 (lv_at hl 5 rfl) ?_
                        refine lv_iadd hx hb dX4_number_110 ?_
                        refine lv_topi (fun v17 ev17 => ?_)
                        have hm := lt_at ev17 hm
                        have ho := Option.some.inj hm
                        exact k_iret hx hb hr hlocks hK hP hD hS dX4_number_111 hQ (by rw [← ho]) rfl
              · have hm := if_t hc hm
                refine lv_iconst (v := (-1 : Int32)) hx hb dX4_number_57 (by decide) ?_
                have ho := Option.some.inj hm
                exact k_iret hx hb hr hlocks hK hP hD hS dX4_number_58 hQ (by rw [← ho]) rfl
  · have hm := if_t hc hm
    refine lv_iconst (v := (-1 : Int32)) hx hb dX4_number_8 (by decide) ?_
    have ho := Option.some.inj hm
    exact k_iret hx hb hr hlocks hK hP hD hS dX4_number_9 hQ (by rw [← ho]) rfl
noncomputable def M_Program_dependents_L4 (F : Nat) (t_sort : Nat → Int32) (t_reach : Nat → Int32) (w1 : Int32) : Nat → Int32 → Int32 → Option ((Int32))
  | 0, _, _ => none
  | n + 1, y3, y2 => if (10 : Int32) ≤ y3 then (some y2) else (gd_ y3 10 <| if (t_sort y3.toNatClampNeg) = (2 : Int32) then (gd_ y3 10 <| if ((t_reach y3.toNatClampNeg) &&& w1) = 0 then (lt_ (y3 + (1 : Int32)) fun v2 => M_Program_dependents_L4 F t_sort t_reach w1 n v2 y2) else (lt_ ((y2 ||| ((1 : Int32) <<< (y3 &&& 31)))) fun v3 => lt_ (y3 + (1 : Int32)) fun v4 => M_Program_dependents_L4 F t_sort t_reach w1 n v4 v3)) else (lt_ (y3 + (1 : Int32)) fun v1 => M_Program_dependents_L4 F t_sort t_reach w1 n v1 y2))
noncomputable def M_Program_dependents (F : Nat) (t_sort : Nat → Int32) (t_reach : Nat → Int32) (x0 : Int32) : Option ((Int32)) := bd_ (M_Program_dependents_L4 F t_sort t_reach x0 F (0 : Int32) (0 : Int32)) fun z5 => some z5
set_option maxRecDepth 100000 in
set_option maxHeartbeats 4000000 in
theorem K_Program_dependents (l : Launch) (D : va_G) (cB cI cZ cJ : ClassId) (t : Nat) (t_kind_a : Nat) (t_place_a : Nat) (t_who_a : Nat) (t_width_a : Nat) (t_term_a : Nat) (t_start_a : Nat) (t_sort_a : Nat) (t_arity_a : Nat) (t_stratum_a : Nat) (t_reach_a : Nat) (t_size : Int32) (t_rules : Int32) (t_sort : Nat → Int32) (t_reach : Nat → Int32) (x0 : Int32) (F : Nat) (out : (Int32)) (hm : M_Program_dependents F t_sort t_reach x0 = some out) : KC l yX4_dependents cX4_dependents 4 (some .int) { frames := 0, cells := 0, slots := 0, locals := 0 } D (kTy cB cI cZ cJ) [.ref t, .int x0] [(t, .inr (4, [.ref t_kind_a, .ref t_place_a, .ref t_who_a, .ref t_width_a, .ref t_term_a, .ref t_start_a, .int t_size, .int t_rules, .ref t_sort_a, .ref t_arity_a, .ref t_stratum_a, .ref t_reach_a])), (t_sort_a, .inl (cI, 10, .inl t_sort)), (t_reach_a, .inl (cI, 10, .inl t_reach))] (some (.int out)) [(t, .inr (4, [.ref t_kind_a, .ref t_place_a, .ref t_who_a, .ref t_width_a, .ref t_term_a, .ref t_start_a, .int t_size, .int t_rules, .ref t_sort_a, .ref t_arity_a, .ref t_stratum_a, .ref t_reach_a])), (t_sort_a, .inl (cI, 10, .inl t_sort)), (t_reach_a, .inl (cI, 10, .inl t_reach))] := by
  refine KC.of (by decide +kernel) (Nat.le_of_ble_eq_true rfl) ?_
  intro p e s m below meth c A ls args Q hQ CX hA hK hP hD hl
  obtain ⟨hx, hb, hr, hml, hown, hts, hlocks⟩ := CX
  have hown : s.vm.findClass RX4 = some m.cls := hown
  have hS : va_S A s.heap s.heap [] := va_S.rf
  have hl : lv_has ls 4 [(0, .ref t), (1, .int x0)] := hl
  have L4 : ∀ (w1 : Int32) (n : Nat) (y3 : Int32) (y2 : Int32) (z : ((Int32))), M_Program_dependents_L4 F t_sort t_reach w1 n y3 y2 = some z →
      (∀ (H : Heap) (locs : List Loc) (ls : Array Slot), va_P D vwCl [(t, .inr (4, [.ref t_kind_a, .ref t_place_a, .ref t_who_a, .ref t_width_a, .ref t_term_a, .ref t_start_a, .int t_size, .int t_rules, .ref t_sort_a, .ref t_arity_a, .ref t_stratum_a, .ref t_reach_a])), (t_sort_a, .inl (cI, 10, .inl t_sort)), (t_reach_a, .inl (cI, 10, .inl t_reach))] H → va_D A [(t, .inr (4, [.ref t_kind_a, .ref t_place_a, .ref t_who_a, .ref t_width_a, .ref t_term_a, .ref t_start_a, .int t_size, .int t_rules, .ref t_sort_a, .ref t_arity_a, .ref t_stratum_a, .ref t_reach_a])), (t_sort_a, .inl (cI, 10, .inl t_sort)), (t_reach_a, .inl (cI, 10, .inl t_reach))] → va_S A s.heap H locs → lv_has ls 4 [(2, .int z)] → W p l e { frames := 0, cells := 0, slots := 0, locals := 0 } s m args below meth c H locs 0 0 Q (F0 m 43 ls [])) →
      ∀ (H : Heap) (locs : List Loc) (ls : Array Slot), va_P D vwCl [(t, .inr (4, [.ref t_kind_a, .ref t_place_a, .ref t_who_a, .ref t_width_a, .ref t_term_a, .ref t_start_a, .int t_size, .int t_rules, .ref t_sort_a, .ref t_arity_a, .ref t_stratum_a, .ref t_reach_a])), (t_sort_a, .inl (cI, 10, .inl t_sort)), (t_reach_a, .inl (cI, 10, .inl t_reach))] H → va_D A [(t, .inr (4, [.ref t_kind_a, .ref t_place_a, .ref t_who_a, .ref t_width_a, .ref t_term_a, .ref t_start_a, .int t_size, .int t_rules, .ref t_sort_a, .ref t_arity_a, .ref t_stratum_a, .ref t_reach_a])), (t_sort_a, .inl (cI, 10, .inl t_sort)), (t_reach_a, .inl (cI, 10, .inl t_reach))] → va_S A s.heap H locs → lv_has ls 4 [(3, .int y3), (2, .int y2), (0, .ref t), (1, .int w1)] → W p l e { frames := 0, cells := 0, slots := 0, locals := 0 } s m args below meth c H locs 0 0 Q (F0 m 4 ls []) := by
    intro w1 n
    induction n with
    | zero => intro y3 y2 z hm; unfold M_Program_dependents_L4 at hm; cases hm
    | succ n ih =>
      intro y3 y2 z hm hE H locs ls hP hD hS hl
      unfold M_Program_dependents_L4 at hm
      refine lv_iload_n hx hb dX4_dependents_4 rfl (lv_at hl 0 rfl) ?_
      refine lv_bipush (v := (10 : Int32)) hx hb dX4_dependents_5 (by decide) ?_
      refine lv_icmp_ge (tgt := 43) hx hb dX4_dependents_7 (by decide) (fun hc => ?_) (fun hc => ?_)
      · have hm := if_t hc hm
        cases hm
        exact hE H locs ls hP hD hS (lv_sub hl [1] rfl)
      · have hm := if_f hc hm
        refine lv_aload_n hx hb dX4_dependents_10 rfl (lv_at hl 2 rfl) ?_
        refine va_get (D := D) (ci := 4) (v := .ref t_sort_a) (C := RX4) (T := TX4) (N := 12) hx hb hts in_X4 hown hK hP 0 rfl rfl 8 (by decide) (hts _ kf_X4_39) (fun _ h9 => h9) rfl dX4_dependents_11 ?_
        refine lv_iload_n hx hb dX4_dependents_14 rfl (lv_at hl 0 rfl) ?_
        refine va_iald hx hb hK hP 1 1 rfl rfl (gd_in hm) dX4_dependents_15 ?_
        have hm := gd_go hm
        refine lv_iconst (v := (2 : Int32)) hx hb dX4_dependents_16 (by decide) ?_
        refine lv_icmp_ne (tgt := 37) hx hb dX4_dependents_17 (by decide) (fun hc => ?_) (fun hc => ?_)
        · have hm := if_f hc hm
          obtain ⟨v1, ev1⟩ : ∃ y : Int32, y = y3 + (1 : Int32) := ⟨_, rfl⟩
          have hm := lt_at ev1 hm
          refine lv_iinc (v := v1) (lv' := [(3, .int v1), (2, .int y2), (0, .ref t), (1, .int w1)]) hx hb dX4_dependents_37 hl (k := 0) rfl (by rw [ev1]; rfl) (by decide) rfl (fun ls hl => ?_)
          refine lv_goto (tgt := 4) hx hb dX4_dependents_40 (by decide) ?_
          exact ih v1 y2 z hm hE H locs ls hP hD hS (lv_sub hl [0, 1, 2, 3] rfl)
        · have hm := if_t hc hm
          refine lv_aload_n hx hb dX4_dependents_20 rfl (lv_at hl 2 rfl) ?_
          refine va_get (D := D) (ci := 4) (v := .ref t_reach_a) (C := RX4) (T := TX4) (N := 12) hx hb hts in_X4 hown hK hP 0 rfl rfl 11 (by decide) (hts _ kf_X4_48) (fun _ h9 => h9) rfl dX4_dependents_21 ?_
          refine lv_iload_n hx hb dX4_dependents_24 rfl (lv_at hl 0 rfl) ?_
          refine va_iald hx hb hK hP 2 1 rfl rfl (gd_in hm) dX4_dependents_25 ?_
          have hm := gd_go hm
          refine lv_iload_n hx hb dX4_dependents_26 rfl (lv_at hl 3 rfl) ?_
          refine lv_iand hx hb dX4_dependents_27 ?_
          refine lv_if_eq (tgt := 37) hx hb dX4_dependents_28 (by decide) (fun hc => ?_) (fun hc => ?_)
          · have hm := if_t hc hm
            obtain ⟨v2, ev2⟩ : ∃ y : Int32, y = y3 + (1 : Int32) := ⟨_, rfl⟩
            have hm := lt_at ev2 hm
            refine lv_iinc (v := v2) (lv' := [(3, .int v2), (2, .int y2), (0, .ref t), (1, .int w1)]) hx hb dX4_dependents_37 hl (k := 0) rfl (by rw [ev2]; rfl) (by decide) rfl (fun ls hl => ?_)
            refine lv_goto (tgt := 4) hx hb dX4_dependents_40 (by decide) ?_
            exact ih v2 y2 z hm hE H locs ls hP hD hS (lv_sub hl [0, 1, 2, 3] rfl)
          · have hm := if_f hc hm
            refine lv_iload_n hx hb dX4_dependents_31 rfl (lv_at hl 1 rfl) ?_
            refine lv_iconst (v := (1 : Int32)) hx hb dX4_dependents_32 (by decide) ?_
            refine lv_iload_n hx hb dX4_dependents_33 rfl (lv_at hl 0 rfl) ?_
            refine lv_ishl hx hb dX4_dependents_34 ?_
            refine lv_ior hx hb dX4_dependents_35 ?_
            refine lv_topi (fun v3 ev3 => ?_)
            have hm := lt_at ev3 hm
            refine lv_istore_n (lv' := [(2, .int v3), (3, .int y3), (0, .ref t), (1, .int w1)]) hx hb dX4_dependents_36 rfl hl (by decide) rfl (fun ls hl => ?_)
            obtain ⟨v4, ev4⟩ : ∃ y : Int32, y = y3 + (1 : Int32) := ⟨_, rfl⟩
            have hm := lt_at ev4 hm
            refine lv_iinc (v := v4) (lv' := [(3, .int v4), (2, .int v3), (0, .ref t), (1, .int w1)]) hx hb dX4_dependents_37 hl (k := 1) rfl (by rw [ev4]; rfl) (by decide) rfl (fun ls hl => ?_)
            refine lv_goto (tgt := 4) hx hb dX4_dependents_40 (by decide) ?_
            exact ih v4 v3 z hm hE H locs ls hP hD hS (lv_sub hl [0, 1, 2, 3] rfl)
  unfold M_Program_dependents at hm
  obtain ⟨H, eH⟩ : ∃ H, H = s.heap := ⟨_, rfl⟩
  obtain ⟨locs, el⟩ : ∃ x : List Loc, x = [] := ⟨_, rfl⟩
  have hP : va_P D vwCl [(t, .inr (4, [.ref t_kind_a, .ref t_place_a, .ref t_who_a, .ref t_width_a, .ref t_term_a, .ref t_start_a, .int t_size, .int t_rules, .ref t_sort_a, .ref t_arity_a, .ref t_stratum_a, .ref t_reach_a])), (t_sort_a, .inl (cI, 10, .inl t_sort)), (t_reach_a, .inl (cI, 10, .inl t_reach))] H := eH ▸ hP
  have hS : va_S A s.heap H locs := by rw [eH, el]; exact hS
  suffices hW : W p l e { frames := 0, cells := 0, slots := 0, locals := 0 } s m args below meth c H locs 0 0 Q (F0 m 0 ls []) by rw [eH, el] at hW; exact hW
  clear eH el
  refine lv_iconst (v := (0 : Int32)) hx hb dX4_dependents_0 (by decide) ?_
  refine lv_istore_n (lv' := [(2, .int (0 : Int32)), (0, .ref t), (1, .int x0)]) hx hb dX4_dependents_1 rfl hl (by decide) rfl (fun ls hl => ?_)
  refine lv_iconst (v := (0 : Int32)) hx hb dX4_dependents_2 (by decide) ?_
  refine lv_istore_n (lv' := [(3, .int (0 : Int32)), (2, .int (0 : Int32)), (0, .ref t), (1, .int x0)]) hx hb dX4_dependents_3 rfl hl (by decide) rfl (fun ls hl => ?_)
  obtain ⟨z5, hz5, hm⟩ := bd_at hm
  refine L4 x0 F (0 : Int32) (0 : Int32) z5 hz5 (fun H locs ls hP hD hS hl => ?_) H locs ls hP hD hS (lv_sub hl [0, 1, 2, 3] rfl)
  refine lv_iload_n hx hb dX4_dependents_43 rfl (lv_at hl 0 rfl) ?_
  have ho := Option.some.inj hm
  exact k_iret hx hb hr hlocks hK hP hD hS dX4_dependents_44 hQ (by rw [← ho]) rfl
