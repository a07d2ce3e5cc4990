theorem kf_X6_15 : Cond.fieldLink RX6 15 "RuleHall$Search" "plan" "[I" ∈ kT := k_in 259 (by decide +kernel)
theorem kf_X6_18 : Cond.fieldLink RX6 18 "RuleHall$Search" "planned" "I" ∈ kT := k_in 261 (by decide +kernel)
theorem kf_X6_22 : Cond.fieldLink RX6 22 "RuleHall$Search" "head" "I" ∈ kT := k_in 262 (by decide +kernel)
theorem kf_X6_25 : Cond.fieldLink RX6 25 "RuleHall$Search" "end" "I" ∈ kT := k_in 263 (by decide +kernel)
theorem kf_X6_28 : Cond.fieldLink RX6 28 "RuleHall$Search" "latestEntry" "I" ∈ kT := k_in 264 (by decide +kernel)
theorem kf_X6_31 : Cond.fieldLink RX6 31 "RuleHall$Search" "counting" "Z" ∈ kT := k_in 265 (by decide +kernel)
theorem kf_X6_35 : Cond.fieldLink RX6 35 "RuleHall$Search" "solutions" "I" ∈ kT := k_in 266 (by decide +kernel)
theorem kf_X6_38 : Cond.fieldLink RX6 38 "RuleHall$Search" "program" "LRuleHall$Program;" ∈ kT := k_in 260 (by decide +kernel)
theorem kf_X6_42 : Cond.fieldLink RX6 42 "RuleHall$Search" "facts" "LRuleHall$FactSet;" ∈ kT := k_in 255 (by decide +kernel)
theorem kf_X6_46 : Cond.fieldLink RX6 46 "RuleHall$Search" "fresh" "LRuleHall$FactSet;" ∈ kT := k_in 256 (by decide +kernel)
theorem kf_X6_49 : Cond.fieldLink RX6 49 "RuleHall$Search" "latest" "LRuleHall$FactSet;" ∈ kT := k_in 257 (by decide +kernel)
theorem kf_X6_77 : Cond.fieldLink RX6 77 "RuleHall$Program" "start" "[I" ∈ kT := k_in 180 (by decide +kernel)
theorem kf_X6_80 : Cond.fieldLink RX6 80 "RuleHall$Program" "kind" "[I" ∈ kT := k_in 164 (by decide +kernel)
theorem kf_X6_87 : Cond.fieldLink RX6 87 "RuleHall$Program" "who" "[I" ∈ kT := k_in 171 (by decide +kernel)
theorem kf_X6_9 : Cond.fieldLink RX6 9 "RuleHall$Search" "value" "[I" ∈ kT := k_in 258 (by decide +kernel)
theorem kf_X6_95 : Cond.fieldLink RX6 95 "RuleHall$Program" "width" "[I" ∈ kT := k_in 175 (by decide +kernel)
theorem kf_X6_98 : Cond.fieldLink RX6 98 "RuleHall$Program" "term" "[I" ∈ kT := k_in 177 (by decide +kernel)
theorem km_X6_101 : Cond.methodLink RX6 101 yX6_chooseNext ∈ kT := k_in 487 (by decide +kernel)
theorem km_X6_105 : Cond.methodLink RX6 105 yJ6_bitCount_0f7a4 ∈ kT := k_in 491 (by decide +kernel)
theorem km_X6_110 : Cond.methodLink RX6 110 yX6_numberOf ∈ kT := k_in 496 (by decide +kernel)
theorem km_X6_126 : Cond.methodLink RX6 126 yX1_has ∈ kT := k_in 504 (by decide +kernel)
theorem km_X6_130 : Cond.methodLink RX6 130 yX6_compare ∈ kT := k_in 521 (by decide +kernel)
theorem km_X6_133 : Cond.methodLink RX6 133 yX1_add ∈ kT := k_in 505 (by decide +kernel)
theorem km_X6_71 : Cond.methodLink RX6 71 yX4_variables ∈ kT := k_in 479 (by decide +kernel)
theorem km_X6_83 : Cond.methodLink RX6 83 yX6_sourceOf ∈ kT := k_in 470 (by decide +kernel)
theorem km_X6_90 : Cond.methodLink RX6 90 yX1_size ∈ kT := k_in 474 (by decide +kernel)
theorem mf_X1_size : MF yX1_size cX1_size 2 (some .int) 1 := ⟨k_in 376 (by decide +kernel), k_in 377 (by decide +kernel), k_in 73 (by decide +kernel), k_in 378 (by decide +kernel), ⟨by decide +kernel, by decide +kernel, by decide +kernel⟩⟩
theorem mf_X6_chooseNext : MF yX6_chooseNext cX6_chooseNext 8 (some .int) 2 := ⟨k_in 489 (by decide +kernel), k_in 6 (by decide +kernel), k_in 78 (by decide +kernel), k_in 490 (by decide +kernel), ⟨by decide +kernel, by decide +kernel, by decide +kernel⟩⟩
theorem mf_X6_compare : MF yX6_compare cX6_compare 4 (some .boolean) 1 := ⟨k_in 523 (by decide +kernel), k_in 12 (by decide +kernel), k_in 78 (by decide +kernel), k_in 524 (by decide +kernel), ⟨by decide +kernel, by decide +kernel, by decide +kernel⟩⟩
theorem mf_X6_numberOf : MF yX6_numberOf cX6_numberOf 4 (some .int) 1 := ⟨k_in 498 (by decide +kernel), k_in 8 (by decide +kernel), k_in 78 (by decide +kernel), k_in 499 (by decide +kernel), ⟨by decide +kernel, by decide +kernel, by decide +kernel⟩⟩
theorem mf_X6_sourceOf : MF yX6_sourceOf cX6_sourceOf 2 (some (.object "RuleHall$FactSet")) 1 := ⟨k_in 472 (by decide +kernel), k_in 3 (by decide +kernel), k_in 78 (by decide +kernel), k_in 473 (by decide +kernel), ⟨by decide +kernel, by decide +kernel, by decide +kernel⟩⟩
noncomputable def M_Search_use : Option (Unit) := some ()
set_option maxRecDepth 100000 in
set_option maxHeartbeats 4000000 in
theorem K_Search_use (l : Launch) (D : va_G) (cB cI cZ cJ : ClassId) (t : Nat) (t_facts_r : Nat) (t_fresh_r : Nat) (t_latest_r : Nat) (t_value_a : Nat) (t_plan_a : Nat) (t_program_r : Nat) (o : Nat) (t_planned : Int32) (t_head : Int32) (t_end : Int32) (t_latestEntry : Int32) (t_counting : Int32) (t_solutions : Int32) (out : Unit) (hm : M_Search_use  = some out) : KC l yX6_use cX6_use 2 none { frames := 0, cells := 0, slots := 0, locals := 0 } D (kTy cB cI cZ cJ) [.ref t, .ref o] [(t, .inr (6, [.ref t_facts_r, .ref t_fresh_r, .ref t_latest_r, .ref t_value_a, .ref t_plan_a, .ref t_program_r, .int t_planned, .int t_head, .int t_end, .int t_latestEntry, .int t_counting, .int t_solutions]))] none [(t, .inr (6, [.ref t_facts_r, .ref t_fresh_r, .ref t_latest_r, .ref t_value_a, .ref t_plan_a, .ref o, .int t_planned, .int t_head, .int t_end, .int t_latestEntry, .int t_counting, .int t_solutions]))] := by
  refine KC.of (by decide +kernel) (Nat.le_of_ble_eq_true rfl) ?_
  intro p e s m below meth c A ls args Q hQ CX hA hK hP hD hl
  obtain ⟨hx, hb, hr, hml, hown, hts, hlocks⟩ := CX
  have hown : s.vm.findClass RX6 = some m.cls := hown
  have hS : va_S A s.heap s.heap [] := va_S.rf
  have hl : lv_has ls 2 [(0, .ref t), (1, .ref o)] := hl
  unfold M_Search_use at hm
  obtain ⟨H, eH⟩ : ∃ H, H = s.heap := ⟨_, rfl⟩
  obtain ⟨locs, el⟩ : ∃ x : List Loc, x = [] := ⟨_, rfl⟩
  have hP : va_P D vwCl [(t, .inr (6, [.ref t_facts_r, .ref t_fresh_r, .ref t_latest_r, .ref t_value_a, .ref t_plan_a, .ref t_program_r, .int t_planned, .int t_head, .int t_end, .int t_latestEntry, .int t_counting, .int t_solutions]))] H := eH ▸ hP
  have hS : va_S A s.heap H locs := by rw [eH, el]; exact hS
  suffices hW : W p l e { frames := 0, cells := 0, slots := 0, locals := 0 } s m args below meth c H locs 0 0 Q (F0 m 0 ls []) by rw [eH, el] at hW; exact hW
  clear eH el
  refine lv_aload_n hx hb dX6_use_0 rfl (lv_at hl 0 rfl) ?_
  refine lv_aload_n hx hb dX6_use_1 rfl (lv_at hl 1 rfl) ?_
  refine va_put (D := D) (ci := 6) (v := .ref o) (ty := .object "RuleHall$Program") (C := RX6) (T := TX6) (N := 12) hx hb hts in_X6 tyX6 tyX6_ok nmX6 hown hK hP hD hS 0 rfl rfl 5 (by decide) (hts _ kf_X6_38) (fun _ h9 => h9) rfl (by decide +kernel) rfl rfl (Nat.le_of_ble_eq_true rfl) dX6_use_2 (fun H locs hP hD hS => ?_)
  have hP : va_P D vwCl [(t, .inr (6, [.ref t_facts_r, .ref t_fresh_r, .ref t_latest_r, .ref t_value_a, .ref t_plan_a, .ref o, .int t_planned, .int t_head, .int t_end, .int t_latestEntry, .int t_counting, .int t_solutions]))] H := hP
  have hD : va_D A [(t, .inr (6, [.ref t_facts_r, .ref t_fresh_r, .ref t_latest_r, .ref t_value_a, .ref t_plan_a, .ref o, .int t_planned, .int t_head, .int t_end, .int t_latestEntry, .int t_counting, .int t_solutions]))] := hD
  have ho := Option.some.inj hm
  exact k_vret hx hb hr hlocks hK hP hD hS dX6_use_5 hQ rfl rfl
noncomputable def M_Search_open (t_head : Int32) (t_end : Int32) (t_latestEntry : Int32) (pr_start : Nat → Int32) (x0 : Int32) (x1 : Int32) : Option ((Int32) × (Int32) × (Int32)) := gd_ x0 241 <| lt_ ((pr_start x0.toNatClampNeg)) fun v1 => gd_ (x0 + (1 : Int32)) 241 <| lt_ ((pr_start (x0 + (1 : Int32)).toNatClampNeg)) fun v2 => some (v1, v2, x1)
set_option maxRecDepth 100000 in
set_option maxHeartbeats 4000000 in
theorem K_Search_open (l : Launch) (D : va_G) (cB cI cZ cJ : ClassId) (t : Nat) (fa : Nat) (fr : Nat) (la : Nat) (t_value_a : Nat) (t_plan_a : Nat) (pr : Nat) (pr_kind_a : Nat) (pr_place_a : Nat) (pr_who_a : Nat) (pr_width_a : Nat) (pr_term_a : Nat) (pr_start_a : Nat) (pr_sort_a : Nat) (pr_arity_a : Nat) (pr_stratum_a : Nat) (pr_reach_a : Nat) (t_planned : Int32) (t_head : Int32) (t_end : Int32) (t_latestEntry : Int32) (t_counting : Int32) (t_solutions : Int32) (pr_size : Int32) (pr_rules : Int32) (pr_start : Nat → Int32) (x0 : Int32) (x1 : Int32) (out : (Int32) × (Int32) × (Int32)) (hm : M_Search_open t_head t_end t_latestEntry pr_start x0 x1 = some out) : KC l yX6_open cX6_open 3 none { frames := 0, cells := 0, slots := 0, locals := 0 } D (kTy cB cI cZ cJ) [.ref t, .int x0, .int x1] [(t, .inr (6, [.ref fa, .ref fr, .ref la, .ref t_value_a, .ref t_plan_a, .ref pr, .int t_planned, .int t_head, .int t_end, .int t_latestEntry, .int t_counting, .int t_solutions])), (pr, .inr (4, [.ref pr_kind_a, .ref pr_place_a, .ref pr_who_a, .ref pr_width_a, .ref pr_term_a, .ref pr_start_a, .int pr_size, .int pr_rules, .ref pr_sort_a, .ref pr_arity_a, .ref pr_stratum_a, .ref pr_reach_a])), (pr_start_a, .inl (cI, 241, .inl pr_start))] none [(t, .inr (6, [.ref fa, .ref fr, .ref la, .ref t_value_a, .ref t_plan_a, .ref pr, .int t_planned, .int out.1, .int out.2.1, .int out.2.2, .int t_counting, .int t_solutions])), (pr, .inr (4, [.ref pr_kind_a, .ref pr_place_a, .ref pr_who_a, .ref pr_width_a, .ref pr_term_a, .ref pr_start_a, .int pr_size, .int pr_rules, .ref pr_sort_a, .ref pr_arity_a, .ref pr_stratum_a, .ref pr_reach_a])), (pr_start_a, .inl (cI, 241, .inl pr_start))] := by
  refine KC.of (by decide +kernel) (Nat.le_of_ble_eq_true rfl) ?_
  intro p e s m below meth c A ls args Q hQ CX hA hK hP hD hl
  obtain ⟨hx, hb, hr, hml, hown, hts, hlocks⟩ := CX
  have hown : s.vm.findClass RX6 = some m.cls := hown
  have hS : va_S A s.heap s.heap [] := va_S.rf
  have hl : lv_has ls 3 [(0, .ref t), (1, .int x0), (2, .int x1)] := hl
  unfold M_Search_open at hm
  obtain ⟨H, eH⟩ : ∃ H, H = s.heap := ⟨_, rfl⟩
  obtain ⟨locs, el⟩ : ∃ x : List Loc, x = [] := ⟨_, rfl⟩
  have hP : va_P D vwCl [(t, .inr (6, [.ref fa, .ref fr, .ref la, .ref t_value_a, .ref t_plan_a, .ref pr, .int t_planned, .int t_head, .int t_end, .int t_latestEntry, .int t_counting, .int t_solutions])), (pr, .inr (4, [.ref pr_kind_a, .ref pr_place_a, .ref pr_who_a, .ref pr_width_a, .ref pr_term_a, .ref pr_start_a, .int pr_size, .int pr_rules, .ref pr_sort_a, .ref pr_arity_a, .ref pr_stratum_a, .ref pr_reach_a])), (pr_start_a, .inl (cI, 241, .inl pr_start))] H := eH ▸ hP
  have hS : va_S A s.heap H locs := by rw [eH, el]; exact hS
  suffices hW : W p l e { frames := 0, cells := 0, slots := 0, locals := 0 } s m args below meth c H locs 0 0 Q (F0 m 0 ls []) by rw [eH, el] at hW; exact hW
  clear eH el
  refine lv_aload_n hx hb dX6_open_0 rfl (lv_at hl 0 rfl) ?_
  refine lv_aload_n hx hb dX6_open_1 rfl (lv_at hl 0 rfl) ?_
  refine va_get (D := D) (ci := 6) (v := .ref pr) (C := RX6) (T := TX6) (N := 12) hx hb hts in_X6 hown hK hP 0 rfl rfl 5 (by decide) (hts _ kf_X6_38) (fun _ h9 => h9) rfl dX6_open_2 ?_
  refine va_get (D := D) (ci := 4) (v := .ref pr_start_a) (C := RX4) (T := TX4) (N := 12) hx hb hts in_X4 hown hK hP 1 rfl rfl 5 (by decide) (hts _ kf_X6_77) (fun _ h9 => h9) rfl dX6_open_5 ?_
  refine lv_iload_n hx hb dX6_open_8 rfl (lv_at hl 1 rfl) ?_
  refine va_iald hx hb hK hP 2 1 rfl rfl (gd_in hm) dX6_open_9 ?_
  have hm := gd_go hm
  refine lv_topi (fun v1 ev1 => ?_)
  have hm := lt_at ev1 hm
  refine va_put (D := D) (ci := 6) (v := .int v1) (ty := .int) (C := RX6) (T := TX6) (N := 12) hx hb hts in_X6 tyX6 tyX6_ok nmX6 hown hK hP hD hS 0 rfl rfl 7 (by decide) (hts _ kf_X6_22) (fun _ h9 => h9) rfl (by decide +kernel) rfl rfl (Nat.le_of_ble_eq_true rfl) dX6_open_10 (fun H locs hP hD hS => ?_)
  have hP : va_P D vwCl [(t, .inr (6, [.ref fa, .ref fr, .ref la, .ref t_value_a, .ref t_plan_a, .ref pr, .int t_planned, .int v1, .int t_end, .int t_latestEntry, .int t_counting, .int t_solutions])), (pr, .inr (4, [.ref pr_kind_a, .ref pr_place_a, .ref pr_who_a, .ref pr_width_a, .ref pr_term_a, .ref pr_start_a, .int pr_size, .int pr_rules, .ref pr_sort_a, .ref pr_arity_a, .ref pr_stratum_a, .ref pr_reach_a])), (pr_start_a, .inl (cI, 241, .inl pr_start))] H := hP
  have hD : va_D A [(t, .inr (6, [.ref fa, .ref fr, .ref la, .ref t_value_a, .ref t_plan_a, .ref pr, .int t_planned, .int v1, .int t_end, .int t_latestEntry, .int t_counting, .int t_solutions])), (pr, .inr (4, [.ref pr_kind_a, .ref pr_place_a, .ref pr_who_a, .ref pr_width_a, .ref pr_term_a, .ref pr_start_a, .int pr_size, .int pr_rules, .ref pr_sort_a, .ref pr_arity_a, .ref pr_stratum_a, .ref pr_reach_a])), (pr_start_a, .inl (cI, 241, .inl pr_start))] := hD
  refine lv_aload_n hx hb dX6_open_13 rfl (lv_at hl 0 rfl) ?_
  refine lv_aload_n hx hb dX6_open_14 rfl (lv_at hl 0 rfl) ?_
  refine va_get (D := D) (ci := 6) (v := .ref pr) (C := RX6) (T := TX6) (N := 12) hx hb hts in_X6 hown hK hP 0 rfl rfl 5 (by decide) (hts _ kf_X6_38) (fun _ h9 => h9) rfl dX6_open_15 ?_
  refine va_get (D := D) (ci := 4) (v := .ref pr_start_a) (C := RX4) (T := TX4) (N := 12) hx hb hts in_X4 hown hK hP 1 rfl rfl 5 (by decide) (hts _ kf_X6_77) (fun _ h9 => h9) rfl dX6_open_18 ?_
  refine lv_iload_n hx hb dX6_open_21 rfl (lv_at hl 1 rfl) ?_
  refine lv_iconst (v := (1 : Int32)) hx hb dX6_open_22 (by decide) ?_
  refine lv_iadd hx hb dX6_open_23 ?_
  refine va_iald hx hb hK hP 2 1 rfl rfl (gd_in hm) dX6_open_24 ?_
  have hm := gd_go hm
  refine lv_topi (fun v2 ev2 => ?_)
  have hm := lt_at ev2 hm
  refine va_put (D := D) (ci := 6) (v := .int v2) (ty := .int) (C := RX6) (T := TX6) (N := 12) hx hb hts in_X6 tyX6 tyX6_ok nmX6 hown hK hP hD hS 0 rfl rfl 8 (by decide) (hts _ kf_X6_25) (fun _ h9 => h9) rfl (by decide +kernel) rfl rfl (Nat.le_of_ble_eq_true rfl) dX6_open_25 (fun H locs hP hD hS => ?_)
  have hP : va_P D vwCl [(t, .inr (6, [.ref fa, .ref fr, .ref la, .ref t_value_a, .ref t_plan_a, .ref pr, .int t_planned, .int v1, .int v2, .int t_latestEntry, .int t_counting, .int t_solutions])), (pr, .inr (4, [.ref pr_kind_a, .ref pr_place_a, .ref pr_who_a, .ref pr_width_a, .ref pr_term_a, .ref pr_start_a, .int pr_size, .int pr_rules, .ref pr_sort_a, .ref pr_arity_a, .ref pr_stratum_a, .ref pr_reach_a])), (pr_start_a, .inl (cI, 241, .inl pr_start))] H := hP
  have hD : va_D A [(t, .inr (6, [.ref fa, .ref fr, .ref la, .ref t_value_a, .ref t_plan_a, .ref pr, .int t_planned, .int v1, .int v2, .int t_latestEntry, .int t_counting, .int t_solutions])), (pr, .inr (4, [.ref pr_kind_a, .ref pr_place_a, .ref pr_who_a, .ref pr_width_a, .ref pr_term_a, .ref pr_start_a, .int pr_size, .int pr_rules, .ref pr_sort_a, .ref pr_arity_a, .ref pr_stratum_a, .ref pr_reach_a])), (pr_start_a, .inl (cI, 241, .inl pr_start))] := hD
  refine lv_aload_n hx hb dX6_open_28 rfl (lv_at hl 0 rfl) ?_
  refine lv_iload_n hx hb dX6_open_29 rfl (lv_at hl 2 rfl) ?_
  refine va_put (D := D) (ci := 6) (v := .int x1) (ty := .int) (C := RX6) (T := TX6) (N := 12) hx hb hts in_X6 tyX6 tyX6_ok nmX6 hown hK hP hD hS 0 rfl rfl 9 (by decide) (hts _ kf_X6_28) (fun _ h9 => h9) rfl (by decide +kernel) rfl rfl (Nat.le_of_ble_eq_true rfl) dX6_open_30 (fun H locs hP hD hS => ?_)
  have hP : va_P D vwCl [(t, .inr (6, [.ref fa, .ref fr, .ref la, .ref t_value_a, .ref t_plan_a, .ref pr, .int t_planned, .int v1, .int v2, .int x1, .int t_counting, .int t_solutions])), (pr, .inr (4, [.ref pr_kind_a, .ref pr_place_a, .ref pr_who_a, .ref pr_width_a, .ref pr_term_a, .ref pr_start_a, .int pr_size, .int pr_rules, .ref pr_sort_a, .ref pr_arity_a, .ref pr_stratum_a, .ref pr_reach_a])), (pr_start_a, .inl (cI, 241, .inl pr_start))] H := hP
  have hD : va_D A [(t, .inr (6, [.ref fa, .ref fr, .ref la, .ref t_value_a, .ref t_plan_a, .ref pr, .int t_planned, .int v1, .int v2, .int x1, .int t_counting, .int t_solutions])), (pr, .inr (4, [.ref pr_kind_a, .ref pr_place_a, .ref pr_who_a, .ref pr_width_a, .ref pr_term_a, .ref pr_start_a, .int pr_size, .int pr_rules, .ref pr_sort_a, .ref pr_arity_a, .ref pr_stratum_a, .ref pr_reach_a])), (pr_start_a, .inl (cI, 241, .inl pr_start))] := hD
  have ho := Option.some.inj hm
  exact k_vret hx hb hr hlocks hK hP hD hS dX6_open_33 hQ rfl (by rw [← ho])
set_option maxRecDepth 100000 in
set_option maxHeartbeats 4000000 in
theorem K_Search_sourceOf_1 (l : Launch) (D : va_G) (cB cI cZ cJ : ClassId) (t : Nat) (fa : Nat) (fr : Nat) (la : Nat) (t_value_a : Nat) (t_plan_a : Nat) (pr : Nat) (t_planned : Int32) (t_head : Int32) (t_end : Int32) (t_latestEntry : Int32) (t_counting : Int32) (t_solutions : Int32) (x0 : Int32) (hk : x0 = t_latestEntry) : KC l yX6_sourceOf cX6_sourceOf 2 (some (.object "RuleHall$FactSet")) { frames := 0, cells := 0, slots := 0, locals := 0 } D (kTy cB cI cZ cJ) [.ref t, .int x0] [(t, .inr (6, [.ref fa, .ref fr, .ref la, .ref t_value_a, .ref t_plan_a, .ref pr, .int t_planned, .int t_head, .int t_end, .int t_latestEntry, .int t_counting, .int t_solutions]))] (some (.ref la)) [(t, .inr (6, [.ref fa, .ref fr, .ref la, .ref t_value_a, .ref t_plan_a, .ref pr, .int t_planned, .int t_head, .int t_end, .int t_latestEntry, .int t_counting, .int t_solutions]))] := by
  refine KC.of (by decide +kernel) (Nat.le_of_ble_eq_true rfl) ?_
  intro p e s m below meth c A ls args Q hQ CX hA hK hP hD hl
  obtain ⟨hx, hb, hr, hml, hown, hts, hlocks⟩ := CX
  have hown : s.vm.findClass RX6 = some m.cls := hown
  have hS : va_S A s.heap s.heap [] := va_S.rf
  have hl : lv_has ls 2 [(0, .ref t), (1, .int x0)] := hl
  refine lv_iload_n hx hb dX6_sourceOf_0 rfl (lv_at hl 1 rfl) ?_
  refine lv_aload_n hx hb dX6_sourceOf_1 rfl (lv_at hl 0 rfl) ?_
  refine va_get (D := D) (ci := 6) (v := .int t_latestEntry) (C := RX6) (T := TX6) (N := 12) hx hb hts in_X6 hown hK hP 0 rfl rfl 9 (by decide) (hts _ kf_X6_28) (fun _ h9 => h9) rfl dX6_sourceOf_2 ?_
  refine lv_icmp_ne (tgt := 15) hx hb dX6_sourceOf_5 (by decide) (fun hc => absurd hk hc) (fun hc => ?_)
  refine lv_aload_n hx hb dX6_sourceOf_8 rfl (lv_at hl 0 rfl) ?_
  refine va_get (D := D) (ci := 6) (v := .ref la) (C := RX6) (T := TX6) (N := 12) hx hb hts in_X6 hown hK hP 0 rfl rfl 2 (by decide) (hts _ kf_X6_49) (fun _ h9 => h9) rfl dX6_sourceOf_9 ?_
  refine lv_goto (tgt := 19) hx hb dX6_sourceOf_12 (by decide) ?_
  exact k_aret hx hb hr hlocks hK hP hD hS dX6_sourceOf_19 hQ rfl rfl
set_option maxRecDepth 100000 in
set_option maxHeartbeats 4000000 in
theorem K_Search_sourceOf_2 (l : Launch) (D : va_G) (cB cI cZ cJ : ClassId) (t : Nat) (fa : Nat) (fr : Nat) (la : Nat) (t_value_a : Nat) (t_plan_a : Nat) (pr : Nat) (t_planned : Int32) (t_head : Int32) (t_end : Int32) (t_latestEntry : Int32) (t_counting : Int32) (t_solutions : Int32) (x0 : Int32) (hk : ¬ x0 = t_latestEntry) : KC l yX6_sourceOf cX6_sourceOf 2 (some (.object "RuleHall$FactSet")) { frames := 0, cells := 0, slots := 0, locals := 0 } D (kTy cB cI cZ cJ) [.ref t, .int x0] [(t, .inr (6, [.ref fa, .ref fr, .ref la, .ref t_value_a, .ref t_plan_a, .ref pr, .int t_planned, .int t_head, .int t_end, .int t_latestEntry, .int t_counting, .int t_solutions]))] (some (.ref fa)) [(t, .inr (6, [.ref fa, .ref fr, .ref la, .ref t_value_a, .ref t_plan_a, .ref pr, .int t_planned, .int t_head, .int t_end, .int t_latestEntry, .int t_counting, .int t_solutions]))] := by
  refine KC.of (by decide +kernel) (Nat.le_of_ble_eq_true rfl) ?_
  intro p e s m below meth c A ls args Q hQ CX hA hK hP hD hl
  obtain ⟨hx, hb, hr, hml, hown, hts, hlocks⟩ := CX
  have hown : s.vm.findClass RX6 = some m.cls := hown
  have hS : va_S A s.heap s.heap [] := va_S.rf
  have hl : lv_has ls 2 [(0, .ref t), (1, .int x0)] := hl
  refine lv_iload_n hx hb dX6_sourceOf_0 rfl (lv_at hl 1 rfl) ?_
  refine lv_aload_n hx hb dX6_sourceOf_1 rfl (lv_at hl 0 rfl) ?_
  refine va_get (D := D) (ci := 6) (v := .int t_latestEntry) (C := RX6) (T := TX6) (N := 12) hx hb hts in_X6 hown hK hP 0 rfl rfl 9 (by decide) (hts _ kf_X6_28) (fun _ h9 => h9) rfl dX6_sourceOf_2 ?_
  refine lv_icmp_ne (tgt := 15) hx hb dX6_sourceOf_5 (by decide) (fun hc => ?_) (fun hc => absurd hc hk)
  refine lv_aload_n hx hb dX6_sourceOf_15 rfl (lv_at hl 0 rfl) ?_
  refine va_get (D := D) (ci := 6) (v := .ref fa) (C := RX6) (T := TX6) (N := 12) hx hb hts in_X6 hown hK hP 0 rfl rfl 0 (by decide) (hts _ kf_X6_42) (fun _ h9 => h9) rfl dX6_sourceOf_16 ?_
  exact k_aret hx hb hr hlocks hK hP hD hS dX6_sourceOf_19 hQ rfl rfl
noncomputable def M_Search_isHopeless_L7 (F : Nat) (t_end : Int32) (t_latestEntry : Int32) (fa_count : Nat → Int32) (la_count : Nat → Int32) (pr_kind : Nat → Int32) (pr_who : Nat → Int32) : Nat → Int32 → Option ((Unit) ⊕ ((Int32)))
  | 0, _ => none
  | n + 1, y1 => if t_end ≤ y1 then (some (.inl ())) else (gd_ y1 240 <| if (pr_kind y1.toNatClampNeg) = (1 : Int32) then (if y1 = t_latestEntry then (gd_ y1 240 <| bd_ (M_FactSet_size la_count (pr_who y1.toNatClampNeg)) fun z3 => if z3 = 0 then (some (.inr (1 : Int32))) else (lt_ (y1 + (1 : Int32)) fun v4 => M_Search_isHopeless_L7 F t_end t_latestEntry fa_count la_count pr_kind pr_who n v4)) else (gd_ y1 240 <| bd_ (M_FactSet_size fa_count (pr_who y1.toNatClampNeg)) fun z5 => if z5 = 0 then (some (.inr (1 : Int32))) else (lt_ (y1 + (1 : Int32)) fun v6 => M_Search_isHopeless_L7 F t_end t_latestEntry fa_count la_count pr_kind pr_who n v6))) else (lt_ (y1 + (1 : Int32)) fun v2 => M_Search_isHopeless_L7 F t_end t_latestEntry fa_count la_count pr_kind pr_who n v2))
noncomputable def M_Search_isHopeless (F : Nat) (t_head : Int32) (t_end : Int32) (t_latestEntry : Int32) (fa_count : Nat → Int32) (la_count : Nat → Int32) (pr_kind : Nat → Int32) (pr_who : Nat → Int32) : Option ((Int32)) := lt_ ((t_head + (1 : Int32))) fun v1 => bd_ (M_Search_isHopeless_L7 F t_end t_latestEntry fa_count la_count pr_kind pr_who F v1) fun z7 => cs_ z7 (fun q8 => some (0 : Int32)) (fun o => some o)
set_option maxRecDepth 100000 in
set_option maxHeartbeats 4000000 in
theorem K_Search_isHopeless (l : Launch) (D : va_G) (cB cI cZ cJ : ClassId) (t : Nat) (fa : Nat) (fr : Nat) (la : Nat) (t_value_a : Nat) (t_plan_a : Nat) (pr : Nat) (fa_row_a : Nat) (fa_count_a : Nat) (la_row_a : Nat) (la_count_a : Nat) (pr_kind_a : Nat) (pr_place_a : Nat) (pr_who_a : Nat) (pr_width_a : Nat) (pr_term_a : Nat) (pr_start_a : Nat) (pr_sort_a : Nat) (pr_arity_a : Nat) (pr_stratum_a : Nat) (pr_reach_a : Nat) (t_planned : Int32) (t_head : Int32) (t_end : Int32) (t_latestEntry : Int32) (t_counting : Int32) (t_solutions : Int32) (fa_count : Nat → Int32) (la_count : Nat → Int32) (pr_size : Int32) (pr_rules : Int32) (pr_kind : Nat → Int32) (pr_who : Nat → Int32) (F : Nat) (out : (Int32)) (hm : M_Search_isHopeless F t_head t_end t_latestEntry fa_count la_count pr_kind pr_who = some out) : KC l yX6_isHopeless cX6_isHopeless 2 (some .boolean) { frames := 1, cells := 0, slots := 0, locals := 21 } D (kTy cB cI cZ cJ) [.ref t] [(t, .inr (6, [.ref fa, .ref fr, .ref la, .ref t_value_a, .ref t_plan_a, .ref pr, .int t_planned, .int t_head, .int t_end, .int t_latestEntry, .int t_counting, .int t_solutions])), (fa, .inr (1, [.ref fa_row_a, .ref fa_count_a])), (fa_count_a, .inl (cI, 10, .inl fa_count)), (la, .inr (1, [.ref la_row_a, .ref la_count_a])), (la_count_a, .inl (cI, 10, .inl la_count)), (pr, .inr (4, [.ref pr_kind_a, .ref pr_place_a, .ref pr_who_a, .ref pr_width_a, .ref pr_term_a, .ref pr_start_a, .int pr_size, .int pr_rules, .ref pr_sort_a, .ref pr_arity_a, .ref pr_stratum_a, .ref pr_reach_a])), (pr_kind_a, .inl (cI, 240, .inl pr_kind)), (pr_who_a, .inl (cI, 240, .inl pr_who))] (some (.int out)) [(t, .inr (6, [.ref fa, .ref fr, .ref la, .ref t_value_a, .ref t_plan_a, .ref pr, .int t_planned, .int t_head, .int t_end, .int t_latestEntry, .int t_counting, .int t_solutions])), (fa, .inr (1, [.ref fa_row_a, .ref fa_count_a])), (fa_count_a, .inl (cI, 10, .inl fa_count)), (la, .inr (1, [.ref la_row_a, .ref la_count_a])), (la_count_a, .inl (cI, 10, .inl la_count)), (pr, .inr (4, [.ref pr_kind_a, .ref pr_place_a, .ref pr_who_a, .ref pr_width_a, .ref pr_term_a, .ref pr_start_a, .int pr_size, .int pr_rules, .ref pr_sort_a, .ref pr_arity_a, .ref pr_stratum_a, .ref pr_reach_a])), (pr_kind_a, .inl (cI, 240, .inl pr_kind)), (pr_who_a, .inl (cI, 240, .inl pr_who))] := by
  refine KC.of (by decide +kernel) (Nat.le_of_ble_eq_true rfl) ?_
  intro p e s m below meth c A ls args Q hQ CX hA hK hP hD hl
  obtain ⟨hx, hb, hr, hml, hown, hts, hlocks⟩ := CX
  have hown : s.vm.findClass RX6 = some m.cls := hown
  have hS : va_S A s.heap s.heap [] := va_S.rf
  have hl : lv_has ls 2 [(0, .ref t)] := hl
  have L7 : ∀ (n : Nat) (y1 : Int32) (z : ((Unit) ⊕ ((Int32)))), M_Search_isHopeless_L7 F t_end t_latestEntry fa_count la_count pr_kind pr_who n y1 = some z →
      (∀ (q : Unit) (H : Heap) (locs : List Loc) (ls : Array Slot), z = .inl q → va_P D vwCl [(t, .inr (6, [.ref fa, .ref fr, .ref la, .ref t_value_a, .ref t_plan_a, .ref pr, .int t_planned, .int t_head, .int t_end, .int t_latestEntry, .int t_counting, .int t_solutions])), (fa, .inr (1, [.ref fa_row_a, .ref fa_count_a])), (fa_count_a, .inl (cI, 10, .inl fa_count)), (la, .inr (1, [.ref la_row_a, .ref la_count_a])), (la_count_a, .inl (cI, 10, .inl la_count)), (pr, .inr (4, [.ref pr_kind_a, .ref pr_place_a, .ref pr_who_a, .ref pr_width_a, .ref pr_term_a, .ref pr_start_a, .int pr_size, .int pr_rules, .ref pr_sort_a, .ref pr_arity_a, .ref pr_stratum_a, .ref pr_reach_a])), (pr_kind_a, .inl (cI, 240, .inl pr_kind)), (pr_who_a, .inl (cI, 240, .inl pr_who))] H → va_D A [(t, .inr (6, [.ref fa, .ref fr, .ref la, .ref t_value_a, .ref t_plan_a, .ref pr, .int t_planned, .int t_head, .int t_end, .int t_latestEntry, .int t_counting, .int t_solutions])), (fa, .inr (1, [.ref fa_row_a, .ref fa_count_a])), (fa_count_a, .inl (cI, 10, .inl fa_count)), (la, .inr (1, [.ref la_row_a, .ref la_count_a])), (la_count_a, .inl (cI, 10, .inl la_count)), (pr, .inr (4, [.ref pr_kind_a, .ref pr_place_a, .ref pr_who_a, .ref pr_width_a, .ref pr_term_a, .ref pr_start_a, .int pr_size, .int pr_rules, .ref pr_sort_a, .ref pr_arity_a, .ref pr_stratum_a, .ref pr_reach_a])), (pr_kind_a, .inl (cI, 240, .inl pr_kind)), (pr_who_a, .inl (cI, 240, .inl pr_who))] → va_S A s.heap H locs → lv_has ls 2 [] → W p l e { frames := 1, cells := 0, slots := 0, locals := 21 } s m args below meth c H locs 0 0 Q (F0 m 56 ls [])) →
      (∀ o, z = .inr o → o = out) →
      ∀ (H : Heap) (locs : List Loc) (ls : Array Slot), va_P D vwCl [(t, .inr (6, [.ref fa, .ref fr, .ref la, .ref t_value_a, .ref t_plan_a, .ref pr, .int t_planned, .int t_head, .int t_end, .int t_latestEntry, .int t_counting, .int t_solutions])), (fa, .inr (1, [.ref fa_row_a, .ref fa_count_a])), (fa_count_a, .inl (cI, 10, .inl fa_count)), (la, .inr (1, [.ref la_row_a, .ref la_count_a])), (la_count_a, .inl (cI, 10, .inl la_count)), (pr, .inr (4, [.ref pr_kind_a, .ref pr_place_a, .ref pr_who_a, .ref pr_width_a, .ref pr_term_a, .ref pr_start_a, .int pr_size, .int pr_rules, .ref pr_sort_a, .ref pr_arity_a, .ref pr_stratum_a, .ref pr_reach_a])), (pr_kind_a, .inl (cI, 240, .inl pr_kind)), (pr_who_a, .inl (cI, 240, .inl pr_who))] H → va_D A [(t, .inr (6, [.ref fa, .ref fr, .ref la, .ref t_value_a, .ref t_plan_a, .ref pr, .int t_planned, .int t_head, .int t_end, .int t_latestEntry, .int t_counting, .int t_solutions])), (fa, .inr (1, [.ref fa_row_a, .ref fa_count_a])), (fa_count_a, .inl (cI, 10, .inl fa_count)), (la, .inr (1, [.ref la_row_a, .ref la_count_a])), (la_count_a, .inl (cI, 10, .inl la_count)), (pr, .inr (4, [.ref pr_kind_a, .ref pr_place_a, .ref pr_who_a, .ref pr_width_a, .ref pr_term_a, .ref pr_start_a, .int pr_size, .int pr_rules, .ref pr_sort_a, .ref pr_arity_a, .ref pr_stratum_a, .ref pr_reach_a])), (pr_kind_a, .inl (cI, 240, .inl pr_kind)), (pr_who_a, .inl (cI, 240, .inl pr_who))] → va_S A s.heap H locs → lv_has ls 2 [(1, .int y1), (0, .ref t)] → W p l e { frames := 1, cells := 0, slots := 0, locals := 21 } s m args below meth c H locs 0 0 Q (F0 m 7 ls []) := by
    intro  n
    induction n with
    | zero => intro y1 z hm; unfold M_Search_isHopeless_L7 at hm; cases hm
    | succ n ih =>
      intro y1 z hm hE hR H locs ls hP hD hS hl
      unfold M_Search_isHopeless_L7 at hm
      refine lv_iload_n hx hb dX6_isHopeless_7 rfl (lv_at hl 0 rfl) ?_
      refine lv_aload_n hx hb dX6_isHopeless_8 rfl (lv_at hl 1 rfl) ?_
      refine va_get (D := D) (ci := 6) (v := .int t_end) (C := RX6) (T := TX6) (N := 12) hx hb hts in_X6 hown hK hP 0 rfl rfl 8 (by decide) (hts _ kf_X6_25) (fun _ h9 => h9) rfl dX6_isHopeless_9 ?_
      refine lv_icmp_ge (tgt := 56) hx hb dX6_isHopeless_12 (by decide) (fun hc => ?_) (fun hc => ?_)
      · have hm := if_t hc hm
        exact hE _ H locs ls (Option.some.inj hm).symm hP hD hS (lv_sub hl [] rfl)
      · have hm := if_f hc hm
        refine lv_aload_n hx hb dX6_isHopeless_15 rfl (lv_at hl 1 rfl) ?_
        refine va_get (D := D) (ci := 6) (v := .ref pr) (C := RX6) (T := TX6) (N := 12) hx hb hts in_X6 hown hK hP 0 rfl rfl 5 (by decide) (hts _ kf_X6_38) (fun _ h9 => h9) rfl dX6_isHopeless_16 ?_
        refine va_get (D := D) (ci := 4) (v := .ref pr_kind_a) (C := RX4) (T := TX4) (N := 12) hx hb hts in_X4 hown hK hP 5 rfl rfl 0 (by decide) (hts _ kf_X6_80) (fun _ h9 => h9) rfl dX6_isHopeless_19 ?_
        refine lv_iload_n hx hb dX6_isHopeless_22 rfl (lv_at hl 0 rfl) ?_
        refine va_iald hx hb hK hP 6 1 rfl rfl (gd_in hm) dX6_isHopeless_23 ?_
        have hm := gd_go hm
        refine lv_iconst (v := (1 : Int32)) hx hb dX6_isHopeless_24 (by decide) ?_
        refine lv_icmp_ne (tgt := 50) hx hb dX6_isHopeless_25 (by decide) (fun hc => ?_) (fun hc => ?_)
        · have hm := if_f hc hm
          obtain ⟨v2, ev2⟩ : ∃ y : Int32, y = y1 + (1 : Int32) := ⟨_, rfl⟩
          have hm := lt_at ev2 hm
          refine lv_iinc (v := v2) (lv' := [(1, .int v2), (0, .ref t)]) hx hb dX6_isHopeless_50 hl (k := 0) rfl (by rw [ev2]; rfl) (by decide) rfl (fun ls hl => ?_)
          refine lv_goto (tgt := 7) hx hb dX6_isHopeless_53 (by decide) ?_
          exact ih v2 z hm hE hR H locs ls hP hD hS (lv_sub hl [0, 1] rfl)
        · have hm := if_t hc hm
          refine lv_aload_n hx hb dX6_isHopeless_28 rfl (lv_at hl 1 rfl) ?_
          refine lv_iload_n hx hb dX6_isHopeless_29 rfl (lv_at hl 0 rfl) ?_
          by_cases hc : y1 = t_latestEntry
          · have hm := if_t hc hm
            refine k_callV (As := [.int y1]) (rest := []) (wr := [(fa, .inr (1, [.ref fa_row_a, .ref fa_count_a])), (fa_count_a, .inl (cI, 10, .inl fa_count)), (la, .inr (1, [.ref la_row_a, .ref la_count_a])), (la_count_a, .inl (cI, 10, .inl la_count)), (pr, .inr (4, [.ref pr_kind_a, .ref pr_place_a, .ref pr_who_a, .ref pr_width_a, .ref pr_term_a, .ref pr_start_a, .int pr_size, .int pr_rules, .ref pr_sort_a, .ref pr_arity_a, .ref pr_stratum_a, .ref pr_reach_a])), (pr_kind_a, .inl (cI, 240, .inl pr_kind)), (pr_who_a, .inl (cI, 240, .inl pr_who))]) (ws1 := [(t, .inr (6, [.ref fa, .ref fr, .ref la, .ref t_value_a, .ref t_plan_a, .ref pr, .int t_planned, .int t_head, .int t_end, .int t_latestEntry, .int t_counting, .int t_solutions])), (fa, .inr (1, [.ref fa_row_a, .ref fa_count_a])), (fa_count_a, .inl (cI, 10, .inl fa_count)), (la, .inr (1, [.ref la_row_a, .ref la_count_a])), (la_count_a, .inl (cI, 10, .inl la_count)), (pr, .inr (4, [.ref pr_kind_a, .ref pr_place_a, .ref pr_who_a, .ref pr_width_a, .ref pr_term_a, .ref pr_start_a, .int pr_size, .int pr_rules, .ref pr_sort_a, .ref pr_arity_a, .ref pr_stratum_a, .ref pr_reach_a])), (pr_kind_a, .inl (cI, 240, .inl pr_kind)), (pr_who_a, .inl (cI, 240, .inl pr_who))]) [0] [1, 2, 3, 4, 5, 6, 7] [7, 0, 1, 2, 3, 4, 5, 6] (K_Search_sourceOf_1 l D cB cI cZ cJ t fa fr la t_value_a t_plan_a pr t_planned t_head t_end t_latestEntry t_counting t_solutions y1 hc) mf_X6_sourceOf km_X6_83 hx hb hml hown hts hK hP hD hS hA hl.1 ⟨Nat.zero_le _, Nat.zero_le _⟩ dX6_isHopeless_30 rfl rfl (Nat.le_of_ble_eq_true rfl) ⟨⟨rfl, rfl⟩, Nat.le_of_ble_eq_true rfl, Nat.le_of_ble_eq_true rfl⟩ rfl rfl (by decide) rfl rfl rfl rfl (fun H locs hP hD hS => ?_)
            have hP : va_P D vwCl [(t, .inr (6, [.ref fa, .ref fr, .ref la, .ref t_value_a, .ref t_plan_a, .ref pr, .int t_planned, .int t_head, .int t_end, .int t_latestEntry, .int t_counting, .int t_solutions])), (fa, .inr (1, [.ref fa_row_a, .ref fa_count_a])), (fa_count_a, .inl (cI, 10, .inl fa_count)), (la, .inr (1, [.ref la_row_a, .ref la_count_a])), (la_count_a, .inl (cI, 10, .inl la_count)), (pr, .inr (4, [.ref pr_kind_a, .ref pr_place_a, .ref pr_who_a, .ref pr_width_a, .ref pr_term_a, .ref pr_start_a, .int pr_size, .int pr_rules, .ref pr_sort_a, .ref pr_arity_a, .ref pr_stratum_a, .ref pr_reach_a])), (pr_kind_a, .inl (cI, 240, .inl pr_kind)), (pr_who_a, .inl (cI, 240, .inl pr_who))] H := hP
            have hD : va_D A [(t, .inr (6, [.ref fa, .ref fr, .ref la, .ref t_value_a, .ref t_plan_a, .ref pr, .int t_planned, .int t_head, .int t_end, .int t_latestEntry, .int t_counting, .int t_solutions])), (fa, .inr (1, [.ref fa_row_a, .ref fa_count_a])), (fa_count_a, .inl (cI, 10, .inl fa_count)), (la, .inr (1, [.ref la_row_a, .ref la_count_a])), (la_count_a, .inl (cI, 10, .inl la_count)), (pr, .inr (4, [.ref pr_kind_a, .ref pr_place_a, .ref pr_who_a, .ref pr_width_a, .ref pr_term_a, .ref pr_start_a, .int pr_size, .int pr_rules, .ref pr_sort_a, .ref pr_arity_a, .ref pr_stratum_a, .ref pr_reach_a])), (pr_kind_a, .inl (cI, 240, .inl pr_kind)), (pr_who_a, .inl (cI, 240, .inl pr_who))] := hD
            refine lv_aload_n hx hb dX6_isHopeless_33 rfl (lv_at hl 1 rfl) ?_
            refine va_get (D := D) (ci := 6) (v := .ref pr) (C := RX6) (T := TX6) (N := 12) hx hb hts in_X6 hown hK hP 0 rfl rfl 5 (by decide) (hts _ kf_X6_38) (fun _ h9 => h9) rfl dX6_isHopeless_34 ?_
            refine va_get (D := D) (ci := 4) (v := .ref pr_who_a) (C := RX4) (T := TX4) (N := 12) hx hb hts in_X4 hown hK hP 5 rfl rfl 2 (by decide) (hts _ kf_X6_87) (fun _ h9 => h9) rfl dX6_isHopeless_37 ?_
            refine lv_iload_n hx hb dX6_isHopeless_40 rfl (lv_at hl 0 rfl) ?_
            refine va_iald hx hb hK hP 7 1 rfl rfl (gd_in hm) dX6_isHopeless_41 ?_
            have hm := gd_go hm
            obtain ⟨z3, hz3, hm⟩ := bd_at hm
            refine k_callV (As := [.int (pr_who y1.toNatClampNeg)]) (rest := []) (wr := [(t, .inr (6, [.ref fa, .ref fr, .ref la, .ref t_value_a, .ref t_plan_a, .ref pr, .int t_planned, .int t_head, .int t_end, .int t_latestEntry, .int t_counting, .int t_solutions])), (fa, .inr (1, [.ref fa_row_a, .ref fa_count_a])), (fa_count_a, .inl (cI, 10, .inl fa_count)), (pr, .inr (4, [.ref pr_kind_a, .ref pr_place_a, .ref pr_who_a, .ref pr_width_a, .ref pr_term_a, .ref pr_start_a, .int pr_size, .int pr_rules, .ref pr_sort_a, .ref pr_arity_a, .ref pr_stratum_a, .ref pr_reach_a])), (pr_kind_a, .inl (cI, 240, .inl pr_kind)), (pr_who_a, .inl (cI, 240, .inl pr_who))]) (ws1 := [(t, .inr (6, [.ref fa, .ref fr, .ref la, .ref t_value_a, .ref t_plan_a, .ref pr, .int t_planned, .int t_head, .int t_end, .int t_latestEntry, .int t_counting, .int t_solutions])), (fa, .inr (1, [.ref fa_row_a, .ref fa_count_a])), (fa_count_a, .inl (cI, 10, .inl fa_count)), (la, .inr (1, [.ref la_row_a, .ref la_count_a])), (la_count_a, .inl (cI, 10, .inl la_count)), (pr, .inr (4, [.ref pr_kind_a, .ref pr_place_a, .ref pr_who_a, .ref pr_width_a, .ref pr_term_a, .ref pr_start_a, .int pr_size, .int pr_rules, .ref pr_sort_a, .ref pr_arity_a, .ref pr_stratum_a, .ref pr_reach_a])), (pr_kind_a, .inl (cI, 240, .inl pr_kind)), (pr_who_a, .inl (cI, 240, .inl pr_who))]) [3, 4] [0, 1, 2, 5, 6, 7] [0, 1, 2, 6, 7, 3, 4, 5] (K_FactSet_size l D cB cI cZ cJ la la_row_a la_count_a la_count (pr_who y1.toNatClampNeg) z3 hz3) mf_X1_size km_X6_90 hx hb hml hown hts hK hP hD hS hA hl.1 ⟨Nat.zero_le _, Nat.zero_le _⟩ dX6_isHopeless_42 rfl rfl (Nat.le_of_ble_eq_true rfl) ⟨⟨rfl, rfl⟩, Nat.le_of_ble_eq_true rfl, Nat.le_of_ble_eq_true rfl⟩ rfl rfl (by decide) rfl rfl rfl rfl (fun H locs hP hD hS => ?_)
            have hP : va_P D vwCl [(t, .inr (6, [.ref fa, .ref fr, .ref la, .ref t_value_a, .ref t_plan_a, .ref pr, .int t_planned, .int t_head, .int t_end, .int t_latestEntry, .int t_counting, .int t_solutions])), (fa, .inr (1, [.ref fa_row_a, .ref fa_count_a])), (fa_count_a, .inl (cI, 10, .inl fa_count)), (la, .inr (1, [.ref la_row_a, .ref la_count_a])), (la_count_a, .inl (cI, 10, .inl la_count)), (pr, .inr (4, [.ref pr_kind_a, .ref pr_place_a, .ref pr_who_a, .ref pr_width_a, .ref pr_term_a, .ref pr_start_a, .int pr_size, .int pr_rules, .ref pr_sort_a, .ref pr_arity_a, .ref pr_stratum_a, .ref pr_reach_a])), (pr_kind_a, .inl (cI, 240, .inl pr_kind)), (pr_who_a, .inl (cI, 240, .inl pr_who))] H := hP
            have hD : va_D A [(t, .inr (6, [.ref fa, .ref fr, .ref la, .ref t_value_a, .ref t_plan_a, .ref pr, .int t_planned, .int t_head, .int t_end, .int t_latestEntry, .int t_counting, .int t_solutions])), (fa, .inr (1, [.ref fa_row_a, .ref fa_count_a])), (fa_count_a, .inl (cI, 10, .inl fa_count)), (la, .inr (1, [.ref la_row_a, .ref la_count_a])), (la_count_a, .inl (cI, 10, .inl la_count)), (pr, .inr (4, [.ref pr_kind_a, .ref pr_place_a, .ref pr_who_a, .ref pr_width_a, .ref pr_term_a, .ref pr_start_a, .int pr_size, .int pr_rules, .ref pr_sort_a, .ref pr_arity_a, .ref pr_stratum_a, .ref pr_reach_a])), (pr_kind_a, .inl (cI, 240, .inl pr_kind)), (pr_who_a, .inl (cI, 240, .inl pr_who))] := hD
            refine lv_if_ne (tgt := 50) hx hb dX6_isHopeless_45 (by decide) (fun hc => ?_) (fun hc => ?_)
            · have hm := if_f hc hm
              obtain ⟨v4, ev4⟩ : ∃ y : Int32, y = y1 + (1 : Int32) := ⟨_, rfl⟩
              have hm := lt_at ev4 hm
              refine lv_iinc (v := v4) (lv' := [(1, .int v4), (0, .ref t)]) hx hb dX6_isHopeless_50 hl (k := 0) rfl (by rw [ev4]; rfl) (by decide) rfl (fun ls hl => ?_)
              refine lv_goto (tgt := 7) hx hb dX6_isHopeless_53 (by decide) ?_
              exact ih v4 z hm hE hR H locs ls hP hD hS (lv_sub hl [0, 1] rfl)
            · have hm := if_t hc hm
              refine lv_iconst (v := (1 : Int32)) hx hb dX6_isHopeless_48 (by decide) ?_
              have ho := hR _ (Option.some.inj hm).symm
              exact k_zret (by decide +kernel) hx hb hr hlocks hK hP hD hS dX6_isHopeless_49 hQ (by rw [← ho]) rfl
          · have hm := if_f hc hm
            refine k_callV (As := [.int y1]) (rest := []) (wr := [(fa, .inr (1, [.ref fa_row_a, .ref fa_count_a])), (fa_count_a, .inl (cI, 10, .inl fa_count)), (la, .inr (1, [.ref la_row_a, .ref la_count_a])), (la_count_a, .inl (cI, 10, .inl la_count)), (pr, .inr (4, [.ref pr_kind_a, .ref pr_place_a, .ref pr_who_a, .ref pr_width_a, .ref pr_term_a, .ref pr_start_a, .int pr_size, .int pr_rules, .ref pr_sort_a, .ref pr_arity_a, .ref pr_stratum_a, .ref pr_reach_a])), (pr_kind_a, .inl (cI, 240, .inl pr_kind)), (pr_who_a, .inl (cI, 240, .inl pr_who))]) (ws1 := [(t, .inr (6, [.ref fa, .ref fr, .ref la, .ref t_value_a, .ref t_plan_a, .ref pr, .int t_planned, .int t_head, .int t_end, .int t_latestEntry, .int t_counting, .int t_solutions])), (fa, .inr (1, [.ref fa_row_a, .ref fa_count_a])), (fa_count_a, .inl (cI, 10, .inl fa_count)), (la, .inr (1, [.ref la_row_a, .ref la_count_a])), (la_count_a, .inl (cI, 10, .inl la_count)), (pr, .inr (4, [.ref pr_kind_a, .ref pr_place_a, .ref pr_who_a, .ref pr_width_a, .ref pr_term_a, .ref pr_start_a, .int pr_size, .int pr_rules, .ref pr_sort_a, .ref pr_arity_a, .ref pr_stratum_a, .ref pr_reach_a])), (pr_kind_a, .inl (cI, 240, .inl pr_kind)), (pr_who_a, .inl (cI, 240, .inl pr_who))]) [0] [1, 2, 3, 4, 5, 6, 7] [7, 0, 1, 2, 3, 4, 5, 6] (K_Search_sourceOf_2 l D cB cI cZ cJ t fa fr la t_value_a t_plan_a pr t_planned t_head t_end t_latestEntry t_counting t_solutions y1 hc) mf_X6_sourceOf km_X6_83 hx hb hml hown hts hK hP hD hS hA hl.1 ⟨Nat.zero_le _, Nat.zero_le _⟩ dX6_isHopeless_30 rfl rfl (Nat.le_of_ble_eq_true rfl) ⟨⟨rfl, rfl⟩, Nat.le_of_ble_eq_true rfl, Nat.le_of_ble_eq_true rfl⟩ rfl rfl (by decide) rfl rfl rfl rfl (fun H locs hP hD hS => ?_)
            have hP : va_P D vwCl [(t, .inr (6, [.ref fa, .ref fr, .ref la, .ref t_value_a, .ref t_plan_a, .ref pr, .int t_planned, .int t_head, .int t_end, .int t_latestEntry, .int t_counting, .int t_solutions])), (fa, .inr (1, [.ref fa_row_a, .ref fa_count_a])), (fa_count_a, .inl (cI, 10, .inl fa_count)), (la, .inr (1, [.ref la_row_a, .ref la_count_a])), (la_count_a, .inl (cI, 10, .inl la_count)), (pr, .inr (4, [.ref pr_kind_a, .ref pr_place_a, .ref pr_who_a, .ref pr_width_a, .ref pr_term_a, .ref pr_start_a, .int pr_size, .int pr_rules, .ref pr_sort_a, .ref pr_arity_a, .ref pr_stratum_a, .ref pr_reach_a])), (pr_kind_a, .inl (cI, 240, .inl pr_kind)), (pr_who_a, .inl (cI, 240, .inl pr_who))] H := hP
            have hD : va_D A [(t, .inr (6, [.ref fa, .ref fr, .ref la, .ref t_value_a, .ref t_plan_a, .ref pr, .int t_planned, .int t_head, .int t_end, .int t_latestEntry, .int t_counting, .int t_solutions])), (fa, .inr (1, [.ref fa_row_a, .ref fa_count_a])), (fa_count_a, .inl (cI, 10, .inl fa_count)), (la, .inr (1, [.ref la_row_a, .ref la_count_a])), (la_count_a, .inl (cI, 10, .inl la_count)), (pr, .inr (4, [.ref pr_kind_a, .ref pr_place_a, .ref pr_who_a, .ref pr_width_a, .ref pr_term_a, .ref pr_start_a, .int pr_size, .int pr_rules, .ref pr_sort_a, .ref pr_arity_a, .ref pr_stratum_a, .ref pr_reach_a])), (pr_kind_a, .inl (cI, 240, .inl pr_kind)), (pr_who_a, .inl (cI, 240, .inl pr_who))] := hD
            refine lv_aload_n hx hb dX6_isHopeless_33 rfl (lv_at hl 1 rfl) ?_
            refine va_get (D := D) (ci := 6) (v := .ref pr) (C := RX6) (T := TX6) (N := 12) hx hb hts in_X6 hown hK hP 0 rfl rfl 5 (by decide) (hts _ kf_X6_38) (fun _ h9 => h9) rfl dX6_isHopeless_34 ?_
            refine va_get (D := D) (ci := 4) (v := .ref pr_who_a) (C := RX4) (T := TX4) (N := 12) hx hb hts in_X4 hown hK hP 5 rfl rfl 2 (by decide) (hts _ kf_X6_87) (fun _ h9 => h9) rfl dX6_isHopeless_37 ?_
            refine lv_iload_n hx hb dX6_isHopeless_40 rfl (lv_at hl 0 rfl) ?_
            refine va_iald hx hb hK hP 7 1 rfl rfl (gd_in hm) dX6_isHopeless_41 ?_
            have hm := gd_go hm
            obtain ⟨z5, hz5, hm⟩ := bd_at hm
            refine k_callV (As := [.int (pr_who y1.toNatClampNeg)]) (rest := []) (wr := [(t, .inr (6, [.ref fa, .ref fr, .ref la, .ref t_value_a, .ref t_plan_a, .ref pr, .int t_planned, .int t_head, .int t_end, .int t_latestEntry, .int t_counting, .int t_solutions])), (la, .inr (1, [.ref la_row_a, .ref la_count_a])), (la_count_a, .inl (cI, 10, .inl la_count)), (pr, .inr (4, [.ref pr_kind_a, .ref pr_place_a, .ref pr_who_a, .ref pr_width_a, .ref pr_term_a, .ref pr_start_a, .int pr_size, .int pr_rules, .ref pr_sort_a, .ref pr_arity_a, .ref pr_stratum_a, .ref pr_reach_a])), (pr_kind_a, .inl (cI, 240, .inl pr_kind)), (pr_who_a, .inl (cI, 240, .inl pr_who))]) (ws1 := [(t, .inr (6, [.ref fa, .ref fr, .ref la, .ref t_value_a, .ref t_plan_a, .ref pr, .int t_planned, .int t_head, .int t_end, .int t_latestEntry, .int t_counting, .int t_solutions])), (fa, .inr (1, [.ref fa_row_a, .ref fa_count_a])), (fa_count_a, .inl (cI, 10, .inl fa_count)), (la, .inr (1, [.ref la_row_a, .ref la_count_a])), (la_count_a, .inl (cI, 10, .inl la_count)), (pr, .inr (4, [.ref pr_kind_a, .ref pr_place_a, .ref pr_who_a, .ref pr_width_a, .ref pr_term_a, .ref pr_start_a, .int pr_size, .int pr_rules, .ref pr_sort_a, .ref pr_arity_a, .ref pr_stratum_a, .ref pr_reach_a])), (pr_kind_a, .inl (cI, 240, .inl pr_kind)), (pr_who_a, .inl (cI, 240, .inl pr_who))]) [1, 2] [0, 3, 4, 5, 6, 7] [0, 6, 7, 1, 2, 3, 4, 5] (K_FactSet_size l D cB cI cZ cJ fa fa_row_a fa_count_a fa_count (pr_who y1.toNatClampNeg) z5 hz5) mf_X1_size km_X6_90 hx hb hml hown hts hK hP hD hS hA hl.1 ⟨Nat.zero_le _, Nat.zero_le _⟩ dX6_isHopeless_42 rfl rfl (Nat.le_of_ble_eq_true rfl) ⟨⟨rfl, rfl⟩, Nat.le_of_ble_eq_true rfl, Nat.le_of_ble_eq_true rfl⟩ rfl rfl (by decide) rfl rfl rfl rfl (fun H locs hP hD hS => ?_)
            have hP : va_P D vwCl [(t, .inr (6, [.ref fa, .ref fr, .ref la, .ref t_value_a, .ref t_plan_a, .ref pr, .int t_planned, .int t_head, .int t_end, .int t_latestEntry, .int t_counting, .int t_solutions])), (fa, .inr (1, [.ref fa_row_a, .ref fa_count_a])), (fa_count_a, .inl (cI, 10, .inl fa_count)), (la, .inr (1, [.ref la_row_a, .ref la_count_a])), (la_count_a, .inl (cI, 10, .inl la_count)), (pr, .inr (4, [.ref pr_kind_a, .ref pr_place_a, .ref pr_who_a, .ref pr_width_a, .ref pr_term_a, .ref pr_start_a, .int pr_size, .int pr_rules, .ref pr_sort_a, .ref pr_arity_a, .ref pr_stratum_a, .ref pr_reach_a])), (pr_kind_a, .inl (cI, 240, .inl pr_kind)), (pr_who_a, .inl (cI, 240, .inl pr_who))] H := hP
            have hD : va_D A [(t, .inr (6, [.ref fa, .ref fr, .ref la, .ref t_value_a, .ref t_plan_a, .ref pr, .int t_planned, .int t_head, .int t_end, .int t_latestEntry, .int t_counting, .int t_solutions])), (fa, .inr (1, [.ref fa_row_a, .ref fa_count_a])), (fa_count_a, .inl (cI, 10, .inl fa_count)), (la, .inr (1, [.ref la_row_a, .ref la_count_a])), (la_count_a, .inl (cI, 10, .inl la_count)), (pr, .inr (4, [.ref pr_kind_a, .ref pr_place_a, .ref pr_who_a, .ref pr_width_a, .ref pr_term_a, .ref pr_start_a, .int pr_size, .int pr_rules, .ref pr_sort_a, .ref pr_arity_a, .ref pr_stratum_a, .ref pr_reach_a])), (pr_kind_a, .inl (cI, 240, .inl pr_kind)), (pr_who_a, .inl (cI, 240, .inl pr_who))] := hD
            refine lv_if_ne (tgt := 50) hx hb dX6_isHopeless_45 (by decide) (fun hc => ?_) (fun hc => ?_)
            · have hm := if_f hc hm
              obtain ⟨v6, ev6⟩ : ∃ y : Int32, y = y1 + (1 : Int32) := ⟨_, rfl⟩
              have hm := lt_at ev6 hm
              refine lv_iinc (v := v6) (lv' := [(1, .int v6), (0, .ref t)]) hx hb dX6_isHopeless_50 hl (k := 0) rfl (by rw [ev6]; rfl) (by decide) rfl (fun ls hl => ?_)
              refine lv_goto (tgt := 7) hx hb dX6_isHopeless_53 (by decide) ?_
              exact ih v6 z hm hE hR H locs ls hP hD hS (lv_sub hl [0, 1] rfl)
            · have hm := if_t hc hm
              refine lv_iconst (v := (1 : Int32)) hx hb dX6_isHopeless_48 (by decide) ?_
              have ho := hR _ (Option.some.inj hm).symm
              exact k_zret (by decide +kernel) hx hb hr hlocks hK hP hD hS dX6_isHopeless_49 hQ (by rw [← ho]) rfl
  unfold M_Search_isHopeless at hm
  obtain ⟨H, eH⟩ : ∃ H, H = s.heap := ⟨_, rfl⟩
  obtain ⟨locs, el⟩ : ∃ x : List Loc, x = [] := ⟨_, rfl⟩
  have hP : va_P D vwCl [(t, .inr (6, [.ref fa, .ref fr, .ref la, .ref t_value_a, .ref t_plan_a, .ref pr, .int t_planned, .int t_head, .int t_end, .int t_latestEntry, .int t_counting, .int t_solutions])), (fa, .inr (1, [.ref fa_row_a, .ref fa_count_a])), (fa_count_a, .inl (cI, 10, .inl fa_count)), (la, .inr (1, [.ref la_row_a, .ref la_count_a])), (la_count_a, .inl (cI, 10, .inl la_count)), (pr, .inr (4, [.ref pr_kind_a, .ref pr_place_a, .ref pr_who_a, .ref pr_width_a, .ref pr_term_a, .ref pr_start_a, .int pr_size, .int pr_rules, .ref pr_sort_a, .ref pr_arity_a, .ref pr_stratum_a, .ref pr_reach_a])), (pr_kind_a, .inl (cI, 240, .inl pr_kind)), (pr_who_a, .inl (cI, 240, .inl pr_who))] H := eH ▸ hP
  have hS : va_S A s.heap H locs := by rw [eH, el]; exact hS
  suffices hW : W p l e { frames := 1, cells := 0, slots := 0, locals := 21 } s m args below meth c H locs 0 0 Q (F0 m 0 ls []) by rw [eH, el] at hW; exact hW
  clear eH el
  refine lv_aload_n hx hb dX6_isHopeless_0 rfl (lv_at hl 0 rfl) ?_
  refine va_get (D := D) (ci := 6) (v := .int t_head) (C := RX6) (T := TX6) (N := 12) hx hb hts in_X6 hown hK hP 0 rfl rfl 7 (by decide) (hts _ kf_X6_22) (fun _ h9 => h9) rfl dX6_isHopeless_1 ?_
  refine lv_iconst (v := (1 : Int32)) hx hb dX6_isHopeless_4 (by decide) ?_
  refine lv_iadd hx hb dX6_isHopeless_5 ?_
  refine lv_topi (fun v1 ev1 => ?_)
  have hm := lt_at ev1 hm
  refine lv_istore_n (lv' := [(1, .int v1), (0, .ref t)]) hx hb dX6_isHopeless_6 rfl hl (by decide) rfl (fun ls hl => ?_)
  obtain ⟨z7, hz7, hm⟩ := bd_at hm
  refine L7  F v1 z7 hz7 (fun q8 H locs ls ez hP hD hS hl => ?_) (fun o ho => ?_) H locs ls hP hD hS (lv_sub hl [0, 1] rfl)
  · have hm := cs_l ez hm
    refine lv_iconst (v := (0 : Int32)) hx hb dX6_isHopeless_56 (by decide) ?_
    have ho := Option.some.inj hm
    exact k_zret (by decide +kernel) hx hb hr hlocks hK hP hD hS dX6_isHopeless_57 hQ (by rw [← ho]) rfl
  · have hm := cs_r ho hm
    exact Option.some.inj hm
noncomputable def M_Search_bindHead_L17 (F : Nat) (t_head : Int32) (pr_term : Nat → Int32) : Nat → Int32 → Int32 → (Nat → Int32) → Option (((Nat → Int32)) ⊕ ((Int32) × (Nat → Int32)))
  | 0, _, _, _ => none
  | n + 1, y3, y2, c_t_value => if y3 < 0 then (some (.inl c_t_value)) else (gd_ ((t_head * (3 : Int32)) + y3) 720 <| lt_ ((pr_term ((t_head * (3 : Int32)) + y3).toNatClampNeg)) fun v2 => lt_ ((y2 - y2 / (12 : Int32) * (12 : Int32))) fun v3 => gd_ v2 38 <| if (c_t_value v2.toNatClampNeg) = (-1 : Int32) then (gd_ v2 38 <| lt_ (upd c_t_value v2.toNatClampNeg v3) fun f4 => lt_ ((y2 / (12 : Int32))) fun v5 => lt_ (y3 + (-1 : Int32)) fun v6 => M_Search_bindHead_L17 F t_head pr_term n v6 v5 f4) else (gd_ v2 38 <| if (c_t_value v2.toNatClampNeg) = v3 then (gd_ v2 38 <| lt_ (upd c_t_value v2.toNatClampNeg v3) fun f7 => lt_ ((y2 / (12 : Int32))) fun v8 => lt_ (y3 + (-1 : Int32)) fun v9 => M_Search_bindHead_L17 F t_head pr_term n v9 v8 f7) else (some (.inr ((0 : Int32), c_t_value)))))
noncomputable def M_Search_bindHead (F : Nat) (t_value : Nat → Int32) (t_head : Int32) (pr_width : Nat → Int32) (pr_term : Nat → Int32) (x0 : Int32) : Option ((Int32) × (Nat → Int32)) := gd_ t_head 240 <| lt_ (((pr_width t_head.toNatClampNeg) - (1 : Int32))) fun v1 => bd_ (M_Search_bindHead_L17 F t_head pr_term F v1 x0 t_value) fun z10 => cs_ z10 (fun q11 => some ((1 : Int32), q11)) (fun o => some o)
set_option maxRecDepth 100000 in
set_option maxHeartbeats 4000000 in
theorem K_Search_bindHead (l : Launch) (D : va_G) (cB cI cZ cJ : ClassId) (t : Nat) (fa : Nat) (fr : Nat) (la : Nat) (t_value_a : Nat) (t_plan_a : Nat) (pr : Nat) (pr_kind_a : Nat) (pr_place_a : Nat) (pr_who_a : Nat) (pr_width_a : Nat) (pr_term_a : Nat) (pr_start_a : Nat) (pr_sort_a : Nat) (pr_arity_a : Nat) (pr_stratum_a : Nat) (pr_reach_a : Nat) (t_planned : Int32) (t_head : Int32) (t_end : Int32) (t_latestEntry : Int32) (t_counting : Int32) (t_solutions : Int32) (t_value : Nat → Int32) (pr_size : Int32) (pr_rules : Int32) (pr_width : Nat → Int32) (pr_term : Nat → Int32) (x0 : Int32) (F : Nat) (out : (Int32) × (Nat → Int32)) (hm : M_Search_bindHead F t_value t_head pr_width pr_term x0 = some out) : KC l yX6_bindHead cX6_bindHead 6 (some .boolean) { frames := 0, cells := 0, slots := 0, locals := 0 } D (kTy cB cI cZ cJ) [.ref t, .int x0] [(t, .inr (6, [.ref fa, .ref fr, .ref la, .ref t_value_a, .ref t_plan_a, .ref pr, .int t_planned, .int t_head, .int t_end, .int t_latestEntry, .int t_counting, .int t_solutions])), (t_value_a, .inl (cI, 38, .inl t_value)), (pr, .inr (4, [.ref pr_kind_a, .ref pr_place_a, .ref pr_who_a, .ref pr_width_a, .ref pr_term_a, .ref pr_start_a, .int pr_size, .int pr_rules, .ref pr_sort_a, .ref pr_arity_a, .ref pr_stratum_a, .ref pr_reach_a])), (pr_width_a, .inl (cI, 240, .inl pr_width)), (pr_term_a, .inl (cI, 720, .inl pr_term))] (some (.int out.1)) [(t, .inr (6, [.ref fa, .ref fr, .ref la, .ref t_value_a, .ref t_plan_a, .ref pr, .int t_planned, .int t_head, .int t_end, .int t_latestEntry, .int t_counting, .int t_solutions])), (t_value_a, .inl (cI, 38, .inl out.2)), (pr, .inr (4, [.ref pr_kind_a, .ref pr_place_a, .ref pr_who_a, .ref pr_width_a, .ref pr_term_a, .ref pr_start_a, .int pr_size, .int pr_rules, .ref pr_sort_a, .ref pr_arity_a, .ref pr_stratum_a, .ref pr_reach_a])), (pr_width_a, .inl (cI, 240, .inl pr_width)), (pr_term_a, .inl (cI, 720, .inl pr_term))] := by
  refine KC.of (by decide +kernel) (Nat.le_of_ble_eq_true rfl) ?_
  intro p e s m below meth c A ls args Q hQ CX hA hK hP hD hl
  obtain ⟨hx, hb, hr, hml, hown, hts, hlocks⟩ := CX
  have hown : s.vm.findClass RX6 = some m.cls := hown
  have hS : va_S A s.heap s.heap [] := va_S.rf
  have hl : lv_has ls 6 [(0, .ref t), (1, .int x0)] := hl
  have L17 : ∀ (n : Nat) (y3 : Int32) (y2 : Int32) (c_t_value : Nat → Int32) (z : (((Nat → Int32)) ⊕ ((Int32) × (Nat → Int32)))), M_Search_bindHead_L17 F t_head pr_term n y3 y2 c_t_value = some z →
      (∀ (q : (Nat → Int32)) (H : Heap) (locs : List Loc) (ls : Array Slot), z = .inl q → va_P D vwCl [(t, .inr (6, [.ref fa, .ref fr, .ref la, .ref t_value_a, .ref t_plan_a, .ref pr, .int t_planned, .int t_head, .int t_end, .int t_latestEntry, .int t_counting, .int t_solutions])), (t_value_a, .inl (cI, 38, .inl q)), (pr, .inr (4, [.ref pr_kind_a, .ref pr_place_a, .ref pr_who_a, .ref pr_width_a, .ref pr_term_a, .ref pr_start_a, .int pr_size, .int pr_rules, .ref pr_sort_a, .ref pr_arity_a, .ref pr_stratum_a, .ref pr_reach_a])), (pr_width_a, .inl (cI, 240, .inl pr_width)), (pr_term_a, .inl (cI, 720, .inl pr_term))] H → va_D A [(t, .inr (6, [.ref fa, .ref fr, .ref la, .ref t_value_a, .ref t_plan_a, .ref pr, .int t_planned, .int t_head, .int t_end, .int t_latestEntry, .int t_counting, .int t_solutions])), (t_value_a, .inl (cI, 38, .inl q)), (pr, .inr (4, [.ref pr_kind_a, .ref pr_place_a, .ref pr_who_a, .ref pr_width_a, .ref pr_term_a, .ref pr_start_a, .int pr_size, .int pr_rules, .ref pr_sort_a, .ref pr_arity_a, .ref pr_stratum_a, .ref pr_reach_a])), (pr_width_a, .inl (cI, 240, .inl pr_width)), (pr_term_a, .inl (cI, 720, .inl pr_term))] → va_S A s.heap H locs → lv_has ls 6 [] → W p l e { frames := 0, cells := 0, slots := 0, locals := 0 } s m args below meth c H locs 0 0 Q (F0 m 90 ls [])) →
      (∀ o, z = .inr o → o = out) →
      ∀ (H : Heap) (locs : List Loc) (ls : Array Slot), va_P D vwCl [(t, .inr (6, [.ref fa, .ref fr, .ref la, .ref t_value_a, .ref t_plan_a, .ref pr, .int t_planned, .int t_head, .int t_end, .int t_latestEntry, .int t_counting, .int t_solutions])), (t_value_a, .inl (cI, 38, .inl c_t_value)), (pr, .inr (4, [.ref pr_kind_a, .ref pr_place_a, .ref pr_who_a, .ref pr_width_a, .ref pr_term_a, .ref pr_start_a, .int pr_size, .int pr_rules, .ref pr_sort_a, .ref pr_arity_a, .ref pr_stratum_a, .ref pr_reach_a])), (pr_width_a, .inl (cI, 240, .inl pr_width)), (pr_term_a, .inl (cI, 720, .inl pr_term))] H → va_D A [(t, .inr (6, [.ref fa, .ref fr, .ref la, .ref t_value_a, .ref t_plan_a, .ref pr, .int t_planned, .int t_head, .int t_end, .int t_latestEntry, .int t_counting, .int t_solutions])), (t_value_a, .inl (cI, 38, .inl c_t_value)), (pr, .inr (4, [.ref pr_kind_a, .ref pr_place_a, .ref pr_who_a, .ref pr_width_a, .ref pr_term_a, .ref pr_start_a, .int pr_size, .int pr_rules, .ref pr_sort_a, .ref pr_arity_a, .ref pr_stratum_a, .ref pr_reach_a])), (pr_width_a, .inl (cI, 240, .inl pr_width)), (pr_term_a, .inl (cI, 720, .inl pr_term))] → va_S A s.heap H locs → lv_has ls 6 [(3, .int y3), (2, .int y2), (0, .ref t)] → W p l e { frames := 0, cells := 0, slots := 0, locals := 0 } s m args below meth c H locs 0 0 Q (F0 m 17 ls []) := by
    intro  n
    induction n with
    | zero => intro y3 y2 c_t_value z hm; unfold M_Search_bindHead_L17 at hm; cases hm
    | succ n ih =>
      intro y3 y2 c_t_value z hm hE hR H locs ls hP hD hS hl
      unfold M_Search_bindHead_L17 at hm
      refine lv_iload_n hx hb dX6_bindHead_17 rfl (lv_at hl 0 rfl) ?_
      refine lv_if_lt (tgt := 90) hx hb dX6_bindHead_18 (by decide) (fun hc => ?_) (fun hc => ?_)
      · have hm := if_t hc hm
        exact hE _ H locs ls (Option.some.inj hm).symm hP hD hS (lv_sub hl [] rfl)
      · have hm := if_f hc hm
        refine lv_aload_n hx hb dX6_bindHead_21 rfl (lv_at hl 2 rfl) ?_
        refine va_get (D := D) (ci := 6) (v := .ref pr) (C := RX6) (T := TX6) (N := 12) hx hb hts in_X6 hown hK hP 0 rfl rfl 5 (by decide) (hts _ kf_X6_38) (fun _ h9 => h9) rfl dX6_bindHead_22 ?_
        refine va_get (D := D) (ci := 4) (v := .ref pr_term_a) (C := RX4) (T := TX4) (N := 12) hx hb hts in_X4 hown hK hP 2 rfl rfl 4 (by decide) (hts _ kf_X6_98) (fun _ h9 => h9) rfl dX6_bindHead_25 ?_
        refine lv_aload_n hx hb dX6_bindHead_28 rfl (lv_at hl 2 rfl) ?_
        refine va_get (D := D) (ci := 6) (v := .int t_head) (C := RX6) (T := TX6) (N := 12) hx hb hts in_X6 hown hK hP 0 rfl rfl 7 (by decide) (hts _ kf_X6_22) (fun _ h9 => h9) rfl dX6_bindHead_29 ?_
        refine lv_iconst (v := (3 : Int32)) hx hb dX6_bindHead_32 (by decide) ?_
        refine lv_imul hx hb dX6_bindHead_33 ?_
        refine lv_iload_n hx hb dX6_bindHead_34 rfl (lv_at hl 0 rfl) ?_
        refine lv_iadd hx hb dX6_bindHead_35 ?_
        refine va_iald hx hb hK hP 4 1 rfl rfl (gd_in hm) dX6_bindHead_36 ?_
        have hm := gd_go hm
        refine lv_topi (fun v2 ev2 => ?_)
        have hm := lt_at ev2 hm
        refine lv_istore (lv' := [(4, .int v2), (3, .int y3), (2, .int y2), (0, .ref t)]) hx hb dX6_bindHead_37 hl (by decide) rfl (fun ls hl => ?_)
        refine lv_iload_n hx hb dX6_bindHead_39 rfl (lv_at hl 2 rfl) ?_
        refine lv_bipush (v := (12 : Int32)) hx hb dX6_bindHead_40 (by decide) ?_
        refine lv_irem hx hb dX6_bindHead_42 (by decide) ?_
        refine lv_topi (fun v3 ev3 => ?_)
        have hm := lt_at ev3 hm
        refine lv_istore (lv' := [(5, .int v3), (4, .int v2), (3, .int y3), (2, .int y2), (0, .ref t)]) hx hb dX6_bindHead_43 hl (by decide) rfl (fun ls hl => ?_)
        refine lv_aload_n hx hb dX6_bindHead_45 rfl (lv_at hl 4 rfl) ?_
        refine va_get (D := D) (ci := 6) (v := .ref t_value_a) (C := RX6) (T := TX6) (N := 12) hx hb hts in_X6 hown hK hP 0 rfl rfl 3 (by decide) (hts _ kf_X6_9) (fun _ h9 => h9) rfl dX6_bindHead_46 ?_
        refine lv_iload hx hb dX6_bindHead_49 (lv_at hl 1 rfl) ?_
        refine va_iald hx hb hK hP 1 1 rfl rfl (gd_in hm) dX6_bindHead_51 ?_
        have hm := gd_go hm
        refine lv_iconst (v := (-1 : Int32)) hx hb dX6_bindHead_52 (by decide) ?_
        refine lv_icmp_eq (tgt := 70) hx hb dX6_bindHead_53 (by decide) (fun hc => ?_) (fun hc => ?_)
        · have hm := if_t hc hm
          refine lv_aload_n hx hb dX6_bindHead_70 rfl (lv_at hl 4 rfl) ?_
          refine va_get (D := D) (ci := 6) (v := .ref t_value_a) (C := RX6) (T := TX6) (N := 12) hx hb hts in_X6 hown hK hP 0 rfl rfl 3 (by decide) (hts _ kf_X6_9) (fun _ h9 => h9) rfl dX6_bindHead_71 ?_
          refine lv_iload hx hb dX6_bindHead_74 (lv_at hl 1 rfl) ?_
          refine lv_iload hx hb dX6_bindHead_76 (lv_at hl 0 rfl) ?_
          refine k_iast hx hb hK hP hD hS 1 1 rfl rfl (gd_in hm) dX6_bindHead_78 (fun f4 ef4 H locs hP hD hS => ?_)
          have hm := lt_at ef4 (gd_go hm)
          have hP : va_P D vwCl [(t, .inr (6, [.ref fa, .ref fr, .ref la, .ref t_value_a, .ref t_plan_a, .ref pr, .int t_planned, .int t_head, .int t_end, .int t_latestEntry, .int t_counting, .int t_solutions])), (t_value_a, .inl (cI, 38, .inl f4)), (pr, .inr (4, [.ref pr_kind_a, .ref pr_place_a, .ref pr_who_a, .ref pr_width_a, .ref pr_term_a, .ref pr_start_a, .int pr_size, .int pr_rules, .ref pr_sort_a, .ref pr_arity_a, .ref pr_stratum_a, .ref pr_reach_a])), (pr_width_a, .inl (cI, 240, .inl pr_width)), (pr_term_a, .inl (cI, 720, .inl pr_term))] H := hP
          have hD : va_D A [(t, .inr (6, [.ref fa, .ref fr, .ref la, .ref t_value_a, .ref t_plan_a, .ref pr, .int t_planned, .int t_head, .int t_end, .int t_latestEntry, .int t_counting, .int t_solutions])), (t_value_a, .inl (cI, 38, .inl f4)), (pr, .inr (4, [.ref pr_kind_a, .ref pr_place_a, .ref pr_who_a, .ref pr_width_a, .ref pr_term_a, .ref pr_start_a, .int pr_size, .int pr_rules, .ref pr_sort_a, .ref pr_arity_a, .ref pr_stratum_a, .ref pr_reach_a])), (pr_width_a, .inl (cI, 240, .inl pr_width)), (pr_term_a, .inl (cI, 720, .inl pr_term))] := hD
          refine lv_iload_n hx hb dX6_bindHead_79 rfl (lv_at hl 3 rfl) ?_
          refine lv_bipush (v := (12 : Int32)) hx hb dX6_bindHead_80 (by decide) ?_
          refine lv_idiv hx hb dX6_bindHead_82 (by decide) ?_
          refine lv_topi (fun v5 ev5 => ?_)
          have hm := lt_at ev5 hm
          refine lv_istore_n (lv' := [(2, .int v5), (5, .int v3), (4, .int v2), (3, .int y3), (0, .ref t)]) hx hb dX6_bindHead_83 rfl hl (by decide) rfl (fun ls hl => ?_)
          obtain ⟨v6, ev6⟩ : ∃ y : Int32, y = y3 + (-1 : Int32) := ⟨_, rfl⟩
          have hm := lt_at ev6 hm
          refine lv_iinc (v := v6) (lv' := [(3, .int v6), (2, .int v5), (5, .int v3), (4, .int v2), (0, .ref t)]) hx hb dX6_bindHead_84 hl (k := 3) rfl (by rw [ev6]; rfl) (by decide) rfl (fun ls hl => ?_)
          refine lv_goto (tgt := 17) hx hb dX6_bindHead_87 (by decide) ?_
          exact ih v6 v5 f4 z hm hE hR H locs ls hP hD hS (lv_sub hl [0, 1, 4] rfl)
        · have hm := if_f hc hm
          refine lv_aload_n hx hb dX6_bindHead_56 rfl (lv_at hl 4 rfl) ?_
          refine va_get (D := D) (ci := 6) (v := .ref t_value_a) (C := RX6) (T := TX6) (N := 12) hx hb hts in_X6 hown hK hP 0 rfl rfl 3 (by decide) (hts _ kf_X6_9) (fun _ h9 => h9) rfl dX6_bindHead_57 ?_
          refine lv_iload hx hb dX6_bindHead_60 (lv_at hl 1 rfl) ?_
          refine va_iald hx hb hK hP 1 1 rfl rfl (gd_in hm) dX6_bindHead_62 ?_
          have hm := gd_go hm
          refine lv_iload hx hb dX6_bindHead_63 (lv_at hl 0 rfl) ?_
          refine lv_icmp_eq (tgt := 70) hx hb dX6_bindHead_65 (by decide) (fun hc => ?_) (fun hc => ?_)
          · have hm := if_t hc hm
            refine lv_aload_n hx hb dX6_bindHead_70 rfl (lv_at hl 4 rfl) ?_
            refine va_get (D := D) (ci := 6) (v := .ref t_value_a) (C := RX6) (T := TX6) (N := 12) hx hb hts in_X6 hown hK hP 0 rfl rfl 3 (by decide) (hts _ kf_X6_9) (fun _ h9 => h9) rfl dX6_bindHead_71 ?_
            refine lv_iload hx hb dX6_bindHead_74 (lv_at hl 1 rfl) ?_
            refine lv_iload hx hb dX6_bindHead_76 (lv_at hl 0 rfl) ?_
            refine k_iast hx hb hK hP hD hS 1 1 rfl rfl (gd_in hm) dX6_bindHead_78 (fun f7 ef7 H locs hP hD hS => ?_)
            have hm := lt_at ef7 (gd_go hm)
            have hP : va_P D vwCl [(t, .inr (6, [.ref fa, .ref fr, .ref la, .ref t_value_a, .ref t_plan_a, .ref pr, .int t_planned, .int t_head, .int t_end, .int t_latestEntry, .int t_counting, .int t_solutions])), (t_value_a, .inl (cI, 38, .inl f7)), (pr, .inr (4, [.ref pr_kind_a, .ref pr_place_a, .ref pr_who_a, .ref pr_width_a, .ref pr_term_a, .ref pr_start_a, .int pr_size, .int pr_rules, .ref pr_sort_a, .ref pr_arity_a, .ref pr_stratum_a, .ref pr_reach_a])), (pr_width_a, .inl (cI, 240, .inl pr_width)), (pr_term_a, .inl (cI, 720, .inl pr_term))] H := hP
            have hD : va_D A [(t, .inr (6, [.ref fa, .ref fr, .ref la, .ref t_value_a, .ref t_plan_a, .ref pr, .int t_planned, .int t_head, .int t_end, .int t_latestEntry, .int t_counting, .int t_solutions])), (t_value_a, .inl (cI, 38, .inl f7)), (pr, .inr (4, [.ref pr_kind_a, .ref pr_place_a, .ref pr_who_a, .ref pr_width_a, .ref pr_term_a, .ref pr_start_a, .int pr_size, .int pr_rules, .ref pr_sort_a, .ref pr_arity_a, .ref pr_stratum_a, .ref pr_reach_a])), (pr_width_a, .inl (cI, 240, .inl pr_width)), (pr_term_a, .inl (cI, 720, .inl pr_term))] := hD
            refine lv_iload_n hx hb dX6_bindHead_79 rfl (lv_at hl 3 rfl) ?_
            refine lv_bipush (v := (12 : Int32)) hx hb dX6_bindHead_80 (by decide) ?_
            refine lv_idiv hx hb dX6_bindHead_82 (by decide) ?_
            refine lv_topi (fun v8 ev8 => ?_)
            have hm := lt_at ev8 hm
            refine lv_istore_n (lv' := [(2, .int v8), (5, .int v3), (4, .int v2), (3, .int y3), (0, .ref t)]) hx hb dX6_bindHead_83 rfl hl (by decide) rfl (fun ls hl => ?_)
            obtain ⟨v9, ev9⟩ : ∃ y : Int32, y = y3 + (-1 : Int32) := ⟨_, rfl⟩
            have hm := lt_at ev9 hm
            refine lv_iinc (v := v9) (lv' := [(3, .int v9), (2, .int v8), (5, .int v3), (4, .int v2), (0, .ref t)]) hx hb dX6_bindHead_84 hl (k := 3) rfl (by rw [ev9]; rfl) (by decide) rfl (fun ls hl => ?_)
            refine lv_goto (tgt := 17) hx hb dX6_bindHead_87 (by decide) ?_
            exact ih v9 v8 f7 z hm hE hR H locs ls hP hD hS (lv_sub hl [0, 1, 4] rfl)
          · have hm := if_f hc hm
            refine lv_iconst (v := (0 : Int32)) hx hb dX6_bindHead_68 (by decide) ?_
            have ho := hR _ (Option.some.inj hm).symm
            exact k_zret (by decide +kernel) hx hb hr hlocks hK hP hD hS dX6_bindHead_69 hQ (by rw [← ho]) (by rw [← ho])
  unfold M_Search_bindHead at hm
  obtain ⟨H, eH⟩ : ∃ H, H = s.heap := ⟨_, rfl⟩
  obtain ⟨locs, el⟩ : ∃ x : List Loc, x = [] := ⟨_, rfl⟩
  have hP : va_P D vwCl [(t, .inr (6, [.ref fa, .ref fr, .ref la, .ref t_value_a, .ref t_plan_a, .ref pr, .int t_planned, .int t_head, .int t_end, .int t_latestEntry, .int t_counting, .int t_solutions])), (t_value_a, .inl (cI, 38, .inl t_value)), (pr, .inr (4, [.ref pr_kind_a, .ref pr_place_a, .ref pr_who_a, .ref pr_width_a, .ref pr_term_a, .ref pr_start_a, .int pr_size, .int pr_rules, .ref pr_sort_a, .ref pr_arity_a, .ref pr_stratum_a, .ref pr_reach_a])), (pr_width_a, .inl (cI, 240, .inl pr_width)), (pr_term_a, .inl (cI, 720, .inl pr_term))] H := eH ▸ hP
  have hS : va_S A s.heap H locs := by rw [eH, el]; exact hS
  suffices hW : W p l e { frames := 0, cells := 0, slots := 0, locals := 0 } s m args below meth c H locs 0 0 Q (F0 m 0 ls []) by rw [eH, el] at hW; exact hW
  clear eH el
  refine lv_iload_n hx hb dX6_bindHead_0 rfl (lv_at hl 1 rfl) ?_
  refine lv_istore_n (lv' := [(2, .int x0), (0, .ref t), (1, .int x0)]) hx hb dX6_bindHead_1 rfl hl (by decide) rfl (fun ls hl => ?_)
  refine lv_aload_n hx hb dX6_bindHead_2 rfl (lv_at hl 1 rfl) ?_
  refine va_get (D := D) (ci := 6) (v := .ref pr) (C := RX6) (T := TX6) (N := 12) hx hb hts in_X6 hown hK hP 0 rfl rfl 5 (by decide) (hts _ kf_X6_38) (fun _ h9 => h9) rfl dX6_bindHead_3 ?_
  refine va_get (D := D) (ci := 4) (v := .ref pr_width_a) (C := RX4) (T := TX4) (N := 12) hx hb hts in_X4 hown hK hP 2 rfl rfl 3 (by decide) (hts _ kf_X6_95) (fun _ h9 => h9) rfl dX6_bindHead_6 ?_
  refine lv_aload_n hx hb dX6_bindHead_9 rfl (lv_at hl 1 rfl) ?_
  refine va_get (D := D) (ci := 6) (v := .int t_head) (C := RX6) (T := TX6) (N := 12) hx hb hts in_X6 hown hK hP 0 rfl rfl 7 (by decide) (hts _ kf_X6_22) (fun _ h9 => h9) rfl dX6_bindHead_10 ?_
  refine va_iald hx hb hK hP 3 1 rfl rfl (gd_in hm) dX6_bindHead_13 ?_
  have hm := gd_go hm
  refine lv_iconst (v := (1 : Int32)) hx hb dX6_bindHead_14 (by decide) ?_
  refine lv_isub hx hb dX6_bindHead_15 ?_
  refine lv_topi (fun v1 ev1 => ?_)
  have hm := lt_at ev1 hm
  refine lv_istore_n (lv' := [(3, .int v1), (2, .int x0), (0, .ref t), (1, .int x0)]) hx hb dX6_bindHead_16 rfl hl (by decide) rfl (fun ls hl => ?_)
  obtain ⟨z10, hz10, hm⟩ := bd_at hm
  refine L17  F v1 x0 t_value z10 hz10 (fun q11 H locs ls ez hP hD hS hl => ?_) (fun o ho => ?_) H locs ls hP hD hS (lv_sub hl [0, 1, 2] rfl)
  · have hm := cs_l ez hm
    refine lv_iconst (v := (1 : Int32)) hx hb dX6_bindHead_90 (by decide) ?_
    have ho := Option.some.inj hm
    exact k_zret (by decide +kernel) hx hb hr hlocks hK hP hD hS dX6_bindHead_91 hQ (by rw [← ho]) (by rw [← ho])
  · have hm := cs_r ho hm
    exact Option.some.inj hm
noncomputable def M_Search_chooseNext_L13 (F : Nat) (t_head : Int32) (t_end : Int32) (pr_kind : Nat → Int32) (pr_width : Nat → Int32) (pr_term : Nat → Int32) (w1 : Int32) (w2 : Int32) : Nat → Int32 → Int32 → Int32 → Option (((Int32)) ⊕ ((Int32)))
  | 0, _, _, _ => none
  | n + 1, y5, y4, y3 => if t_end ≤ y5 then (some (.inl y3)) else (lt_ (((w1 >>> ((y5 - t_head) &&& 31)) &&& (1 : Int32))) fun v2 => if v2 = 0 then (bd_ (M_Program_variables F pr_width pr_term y5) fun z3 => bd_ (M_Integer_bitCount_0f7a4 (z3 &&& (w2 ^^^ (-1 : Int32)))) fun z4 => gd_ y5 240 <| if (pr_kind y5.toNatClampNeg) = (1 : Int32) then (if (0 : Int32) = 0 then (if (0 : Int32) = 0 then (if y4 ≤ z4 then (lt_ (y5 + (1 : Int32)) fun v6 => M_Search_chooseNext_L13 F t_head t_end pr_kind pr_width pr_term w1 w2 n v6 y4 y3) else (lt_ (y5 + (1 : Int32)) fun v7 => M_Search_chooseNext_L13 F t_head t_end pr_kind pr_width pr_term w1 w2 n v7 z4 y5)) else (lt_ (y5 + (1 : Int32)) fun v5 => M_Search_chooseNext_L13 F t_head t_end pr_kind pr_width pr_term w1 w2 n v5 y4 y3)) else (if z4 = 0 then (some (.inr y5)) else (if (0 : Int32) = 0 then (if y4 ≤ z4 then (lt_ (y5 + (1 : Int32)) fun v9 => M_Search_chooseNext_L13 F t_head t_end pr_kind pr_width pr_term w1 w2 n v9 y4 y3) else (lt_ (y5 + (1 : Int32)) fun v10 => M_Search_chooseNext_L13 F t_head t_end pr_kind pr_width pr_term w1 w2 n v10 z4 y5)) else (lt_ (y5 + (1 : Int32)) fun v8 => M_Search_chooseNext_L13 F t_head t_end pr_kind pr_width pr_term w1 w2 n v8 y4 y3)))) else (if (1 : Int32) = 0 then (if (1 : Int32) = 0 then (if y4 ≤ z4 then (lt_ (y5 + (1 : Int32)) fun v12 => M_Search_chooseNext_L13 F t_head t_end pr_kind pr_width pr_term w1 w2 n v12 y4 y3) else (lt_ (y5 + (1 : Int32)) fun v13 => M_Search_chooseNext_L13 F t_head t_end pr_kind pr_width pr_term w1 w2 n v13 z4 y5)) else (lt_ (y5 + (1 : Int32)) fun v11 => M_Search_chooseNext_L13 F t_head t_end pr_kind pr_width pr_term w1 w2 n v11 y4 y3)) else (if z4 = 0 then (some (.inr y5)) else (if (1 : Int32) = 0 then (if y4 ≤ z4 then (lt_ (y5 + (1 : Int32)) fun v15 => M_Search_chooseNext_L13 F t_head t_end pr_kind pr_width pr_term w1 w2 n v15 y4 y3) else (lt_ (y5 + (1 : Int32)) fun v16 => M_Search_chooseNext_L13 F t_head t_end pr_kind pr_width pr_term w1 w2 n v16 z4 y5)) else (lt_ (y5 + (1 : Int32)) fun v14 => M_Search_chooseNext_L13 F t_head t_end pr_kind pr_width pr_term w1 w2 n v14 y4 y3))))) else (lt_ (y5 + (1 : Int32)) fun v17 => M_Search_chooseNext_L13 F t_head t_end pr_kind pr_width pr_term w1 w2 n v17 y4 y3))
noncomputable def M_Search_chooseNext (F : Nat) (t_head : Int32) (t_end : Int32) (pr_kind : Nat → Int32) (pr_width : Nat → Int32) (pr_term : Nat → Int32) (x0 : Int32) (x1 : Int32) : Option ((Int32)) := lt_ ((t_head + (1 : Int32))) fun v1 => bd_ (M_Search_chooseNext_L13 F t_head t_end pr_kind pr_width pr_term x0 x1 F v1 (5 : Int32) (-1 : Int32)) fun z18 => cs_ z18 (fun q19 => some q19) (fun o => some o)
set_option maxRecDepth 100000 in
set_option maxHeartbeats 4000000 in
theorem K_Search_chooseNext (l : Launch) (D : va_G) (cB cI cZ cJ : ClassId) (t : Nat) (fa : Nat) (fr : Nat) (la : Nat) (t_value_a : Nat) (t_plan_a : Nat) (pr : Nat) (pr_kind_a : Nat) (pr_place_a : Nat) (pr_who_a : Nat) (pr_width_a : Nat) (pr_term_a : Nat) (pr_start_a : Nat) (pr_sort_a : Nat) (pr_arity_a : Nat) (pr_stratum_a : Nat) (pr_reach_a : Nat) (t_planned : Int32) (t_head : Int32) (t_end : Int32) (t_latestEntry : Int32) (t_counting : Int32) (t_solutions : Int32) (pr_size : Int32) (pr_rules : Int32) (pr_kind : Nat → Int32) (pr_width : Nat → Int32) (pr_term : Nat → Int32) (x0 : Int32) (x1 : Int32) (F : Nat) (out : (Int32)) (hm : M_Search_chooseNext F t_head t_end pr_kind pr_width pr_term x0 x1 = some out) : KC l yX6_chooseNext cX6_chooseNext 8 (some .int) { frames := 1, cells := 0, slots := 0, locals := 24 } D (kTy cB cI cZ cJ) [.ref t, .int x0, .int x1] [(t, .inr (6, [.ref fa, .ref fr, .ref la, .ref t_value_a, .ref t_plan_a, .ref pr, .int t_planned, .int t_head, .int t_end, .int t_latestEntry, .int t_counting, .int t_solutions])), (pr, .inr (4, [.ref pr_kind_a, .ref pr_place_a, .ref pr_who_a, .ref pr_width_a, .ref pr_term_a, .ref pr_start_a, .int pr_size, .int pr_rules, .ref pr_sort_a, .ref pr_arity_a, .ref pr_stratum_a, .ref pr_reach_a])), (pr_kind_a, .inl (cI, 240, .inl pr_kind)), (pr_width_a, .inl (cI, 240, .inl pr_width)), (pr_term_a, .inl (cI, 720, .inl pr_term))] (some (.int out)) [(t, .inr (6, [.ref fa, .ref fr, .ref la, .ref t_value_a, .ref t_plan_a, .ref pr, .int t_planned, .int t_head, .int t_end, .int t_latestEntry, .int t_counting, .int t_solutions])), (pr, .inr (4, [.ref pr_kind_a, .ref pr_place_a, .ref pr_who_a, .ref pr_width_a, .ref pr_term_a, .ref pr_start_a, .int pr_size, .int pr_rules, .ref pr_sort_a, .ref pr_arity_a, .ref pr_stratum_a, .ref pr_reach_a])), (pr_kind_a, .inl (cI, 240, .inl pr_kind)), (pr_width_a, .inl (cI, 240, .inl pr_width)), (pr_term_a, .inl (cI, 720, .inl pr_term))] := by
  refine KC.of (by decide +kernel) (Nat.le_of_ble_eq_true rfl) ?_
  intro p e s m below meth c A ls args Q hQ CX hA hK hP hD hl
  obtain ⟨hx, hb, hr, hml, hown, hts, hlocks⟩ := CX
  have hown : s.vm.findClass RX6 = some m.cls := hown
  have hS : va_S A s.heap s.heap [] := va_S.rf
  have hl : lv_has ls 8 [(0, .ref t), (1, .int x0), (2, .int x1)] := hl
  have L13 : ∀ (w1 : Int32) (w2 : Int32) (n : Nat) (y5 : Int32) (y4 : Int32) (y3 : Int32) (z : (((Int32)) ⊕ ((Int32)))), M_Search_chooseNext_L13 F t_head t_end pr_kind pr_width pr_term w1 w2 n y5 y4 y3 = some z →
      (∀ (q : (Int32)) (H : Heap) (locs : List Loc) (ls : Array Slot), z = .inl q → va_P D vwCl [(t, .inr (6, [.ref fa, .ref fr, .ref la, .ref t_value_a, .ref t_plan_a, .ref pr, .int t_planned, .int t_head, .int t_end, .int t_latestEntry, .int t_counting, .int t_solutions])), (pr, .inr (4, [.ref pr_kind_a, .ref pr_place_a, .ref pr_who_a, .ref pr_width_a, .ref pr_term_a, .ref pr_start_a, .int pr_size, .int pr_rules, .ref pr_sort_a, .ref pr_arity_a, .ref pr_stratum_a, .ref pr_reach_a])), (pr_kind_a, .inl (cI, 240, .inl pr_kind)), (pr_width_a, .inl (cI, 240, .inl pr_width)), (pr_term_a, .inl (cI, 720, .inl pr_term))] H → va_D A [(t, .inr (6, [.ref fa, .ref fr, .ref la, .ref t_value_a, .ref t_plan_a, .ref pr, .int t_planned, .int t_head, .int t_end, .int t_latestEntry, .int t_counting, .int t_solutions])), (pr, .inr (4, [.ref pr_kind_a, .ref pr_place_a, .ref pr_who_a, .ref pr_width_a, .ref pr_term_a, .ref pr_start_a, .int pr_size, .int pr_rules, .ref pr_sort_a, .ref pr_arity_a, .ref pr_stratum_a, .ref pr_reach_a])), (pr_kind_a, .inl (cI, 240, .inl pr_kind)), (pr_width_a, .inl (cI, 240, .inl pr_width)), (pr_term_a, .inl (cI, 720, .inl pr_term))] → va_S A s.heap H locs → lv_has ls 8 [(3, .int q)] → W p l e { frames := 1, cells := 0, slots := 0, locals := 24 } s m args below meth c H locs 0 0 Q (F0 m 116 ls [])) →
      (∀ o, z = .inr o → o = out) →
      ∀ (H : Heap) (locs : List Loc) (ls : Array Slot), va_P D vwCl [(t, .inr (6, [.ref fa, .ref fr, .ref la, .ref t_value_a, .ref t_plan_a, .ref pr, .int t_planned, .int t_head, .int t_end, .int t_latestEntry, .int t_counting, .int t_solutions])), (pr, .inr (4, [.ref pr_kind_a, .ref pr_place_a, .ref pr_who_a, .ref pr_width_a, .ref pr_term_a, .ref pr_start_a, .int pr_size, .int pr_rules, .ref pr_sort_a, .ref pr_arity_a, .ref pr_stratum_a, .ref pr_reach_a])), (pr_kind_a, .inl (cI, 240, .inl pr_kind)), (pr_width_a, .inl (cI, 240, .inl pr_width)), (pr_term_a, .inl (cI, 720, .inl pr_term))] H → va_D A [(t, .inr (6, [.ref fa, .ref fr, .ref la, .ref t_value_a, .ref t_plan_a, .ref pr, .int t_planned, .int t_head, .int t_end, .int t_latestEntry, .int t_counting, .int t_solutions])), (pr, .inr (4, [.ref pr_kind_a, .ref pr_place_a, .ref pr_who_a, .ref pr_width_a, .ref pr_term_a, .ref pr_start_a, .int pr_size, .int pr_rules, .ref pr_sort_a, .ref pr_arity_a, .ref pr_stratum_a, .ref pr_reach_a])), (pr_kind_a, .inl (cI, 240, .inl pr_kind)), (pr_width_a, .inl (cI, 240, .inl pr_width)), (pr_term_a, .inl (cI, 720, .inl pr_term))] → va_S A s.heap H locs → lv_has ls 8 [(5, .int y5), (4, .int y4), (3, .int y3), (0, .ref t), (1, .int w1), (2, .int w2)] → W p l e { frames := 1, cells := 0, slots := 0, locals := 24 } s m args below meth c H locs 0 0 Q (F0 m 13 ls []) := by
    intro w1 w2 n
    induction n with
    | zero => intro y5 y4 y3 z hm; unfold M_Search_chooseNext_L13 at hm; cases hm
    | succ n ih =>
      intro y5 y4 y3 z hm hE hR H locs ls hP hD hS hl
      unfold M_Search_chooseNext_L13 at hm
      refine lv_iload hx hb dX6_chooseNext_13 (lv_at hl 0 rfl) ?_
      refine lv_aload_n hx hb dX6_chooseNext_15 rfl (lv_at hl 3 rfl) ?_
      refine va_get (D := D) (ci := 6) (v := .int t_end) (C := RX6) (T := TX6) (N := 12) hx hb hts in_X6 hown hK hP 0 rfl rfl 8 (by decide) (hts _ kf_X6_25) (fun _ h9 => h9) rfl dX6_chooseNext_16 ?_
      refine lv_icmp_ge (tgt := 116) hx hb dX6_chooseNext_19 (by decide) (fun hc => ?_) (fun hc => ?_)
      · have hm := if_t hc hm
        exact hE _ H locs ls (Option.some.inj hm).symm hP hD hS (lv_sub hl [2] rfl)
      · have hm := if_f hc hm
        refine lv_iload_n hx hb dX6_chooseNext_22 rfl (lv_at hl 4 rfl) ?_
        refine lv_iload hx hb dX6_chooseNext_23 (lv_at hl 0 rfl) ?_
        refine lv_aload_n hx hb dX6_chooseNext_25 rfl (lv_at hl 3 rfl) ?_
        refine va_get (D := D) (ci := 6) (v := .int t_head) (C := RX6) (T := TX6) (N := 12) hx hb hts in_X6 hown hK hP 0 rfl rfl 7 (by decide) (hts _ kf_X6_22) (fun _ h9 => h9) rfl dX6_chooseNext_26 ?_
        refine lv_isub hx hb dX6_chooseNext_29 ?_
        refine lv_ishr hx hb dX6_chooseNext_30 ?_
        refine lv_iconst (v := (1 : Int32)) hx hb dX6_chooseNext_31 (by decide) ?_
        refine lv_iand hx hb dX6_chooseNext_32 ?_
        refine lv_topi (fun v2 ev2 => ?_)
        have hm := lt_at ev2 hm
        refine lv_if_eq (tgt := 39) hx hb dX6_chooseNext_33 (by decide) (fun hc => ?_) (fun hc => ?_)
        · have hm := if_t hc hm
          refine lv_aload_n hx hb dX6_chooseNext_39 rfl (lv_at hl 3 rfl) ?_
          refine va_get (D := D) (ci := 6) (v := .ref pr) (C := RX6) (T := TX6) (N := 12) hx hb hts in_X6 hown hK hP 0 rfl rfl 5 (by decide) (hts _ kf_X6_38) (fun _ h9 => h9) rfl dX6_chooseNext_40 ?_
          refine lv_iload hx hb dX6_chooseNext_43 (lv_at hl 0 rfl) ?_
          obtain ⟨z3, hz3, hm⟩ := bd_at hm
          refine k_callV (As := [.int y5]) (rest := []) (wr := [(t, .inr (6, [.ref fa, .ref fr, .ref la, .ref t_value_a, .ref t_plan_a, .ref pr, .int t_planned, .int t_head, .int t_end, .int t_latestEntry, .int t_counting, .int t_solutions])), (pr_kind_a, .inl (cI, 240, .inl pr_kind))]) (ws1 := [(t, .inr (6, [.ref fa, .ref fr, .ref la, .ref t_value_a, .ref t_plan_a, .ref pr, .int t_planned, .int t_head, .int t_end, .int t_latestEntry, .int t_counting, .int t_solutions])), (pr, .inr (4, [.ref pr_kind_a, .ref pr_place_a, .ref pr_who_a, .ref pr_width_a, .ref pr_term_a, .ref pr_start_a, .int pr_size, .int pr_rules, .ref pr_sort_a, .ref pr_arity_a, .ref pr_stratum_a, .ref pr_reach_a])), (pr_kind_a, .inl (cI, 240, .inl pr_kind)), (pr_width_a, .inl (cI, 240, .inl pr_width)), (pr_term_a, .inl (cI, 720, .inl pr_term))]) [1, 3, 4] [0, 2] [0, 2, 1, 3, 4] (K_Program_variables l D cB cI cZ cJ pr pr_kind_a pr_place_a pr_who_a pr_width_a pr_term_a pr_start_a pr_sort_a pr_arity_a pr_stratum_a pr_reach_a pr_size pr_rules pr_width pr_term y5 F z3 hz3) mf_X4_variables km_X6_71 hx hb hml hown hts hK hP hD hS hA hl.1 ⟨Nat.zero_le _, Nat.zero_le _⟩ dX6_chooseNext_45 rfl rfl (Nat.le_of_ble_eq_true rfl) ⟨⟨rfl, rfl⟩, Nat.le_of_ble_eq_true rfl, Nat.le_of_ble_eq_true rfl⟩ rfl rfl (by decide) rfl rfl rfl rfl (fun H locs hP hD hS => ?_)
          have hP : va_P D vwCl [(t, .inr (6, [.ref fa, .ref fr, .ref la, .ref t_value_a, .ref t_plan_a, .ref pr, .int t_planned, .int t_head, .int t_end, .int t_latestEntry, .int t_counting, .int t_solutions])), (pr, .inr (4, [.ref pr_kind_a, .ref pr_place_a, .ref pr_who_a, .ref pr_width_a, .ref pr_term_a, .ref pr_start_a, .int pr_size, .int pr_rules, .ref pr_sort_a, .ref pr_arity_a, .ref pr_stratum_a, .ref pr_reach_a])), (pr_kind_a, .inl (cI, 240, .inl pr_kind)), (pr_width_a, .inl (cI, 240, .inl pr_width)), (pr_term_a, .inl (cI, 720, .inl pr_term))] H := hP
          have hD : va_D A [(t, .inr (6, [.ref fa, .ref fr, .ref la, .ref t_value_a, .ref t_plan_a, .ref pr, .int t_planned, .int t_head, .int t_end, .int t_latestEntry, .int t_counting, .int t_solutions])), (pr, .inr (4, [.ref pr_kind_a, .ref pr_place_a, .ref pr_who_a, .ref pr_width_a, .ref pr_term_a, .ref pr_start_a, .int pr_size, .int pr_rules, .ref pr_sort_a, .ref pr_arity_a, .ref pr_stratum_a, .ref pr_reach_a])), (pr_kind_a, .inl (cI, 240, .inl pr_kind)), (pr_width_a, .inl (cI, 240, .inl pr_width)), (pr_term_a, .inl (cI, 720, .inl pr_term))] := hD
          refine lv_iload_n hx hb dX6_chooseNext_48 rfl (lv_at hl 5 rfl) ?_
          refine lv_iconst (v := (-1 : Int32)) hx hb dX6_chooseNext_49 (by decide) ?_
          refine lv_ixor hx hb dX6_chooseNext_50 ?_
          refine lv_iand hx hb dX6_chooseNext_51 ?_
          obtain ⟨z4, hz4, hm⟩ := bd_at hm
          refine k_callS (As := [.int (z3 &&& (w2 ^^^ (-1 : Int32)))]) (rest := []) (wr := [(t, .inr (6, [.ref fa, .ref fr, .ref la, .ref t_value_a, .ref t_plan_a, .ref pr, .int t_planned, .int t_head, .int t_end, .int t_latestEntry, .int t_counting, .int t_solutions])), (pr, .inr (4, [.ref pr_kind_a, .ref pr_place_a, .ref pr_who_a, .ref pr_width_a, .ref pr_term_a, .ref pr_start_a, .int pr_size, .int pr_rules, .ref pr_sort_a, .ref pr_arity_a, .ref pr_stratum_a, .ref pr_reach_a])), (pr_kind_a, .inl (cI, 240, .inl pr_kind)), (pr_width_a, .inl (cI, 240, .inl pr_width)), (pr_term_a, .inl (cI, 720, .inl pr_term))]) (ws1 := [(t, .inr (6, [.ref fa, .ref fr, .ref la, .ref t_value_a, .ref t_plan_a, .ref pr, .int t_planned, .int t_head, .int t_end, .int t_latestEntry, .int t_counting, .int t_solutions])), (pr, .inr (4, [.ref pr_kind_a, .ref pr_place_a, .ref pr_who_a, .ref pr_width_a, .ref pr_term_a, .ref pr_start_a, .int pr_size, .int pr_rules, .ref pr_sort_a, .ref pr_arity_a, .ref pr_stratum_a, .ref pr_reach_a])), (pr_kind_a, .inl (cI, 240, .inl pr_kind)), (pr_width_a, .inl (cI, 240, .inl pr_width)), (pr_term_a, .inl (cI, 720, .inl pr_term))]) [] [0, 1, 2, 3, 4] [0, 1, 2, 3, 4] (K_Integer_bitCount_0f7a4 l D cB cI cZ cJ (z3 &&& (w2 ^^^ (-1 : Int32))) z4 hz4) ms_J6_bitCount_0f7a4 km_X6_105 hx hb hml hown hts hK hP hD hS hA hl.1 ⟨Nat.zero_le _, Nat.zero_le _⟩ dX6_chooseNext_52 rfl rfl (Nat.le_of_ble_eq_true rfl) ⟨⟨rfl, rfl⟩, Nat.le_of_ble_eq_true rfl, Nat.le_of_ble_eq_true rfl⟩ rfl rfl (by decide) rfl (fun H locs hP hD hS => ?_)
          have hP : va_P D vwCl [(t, .inr (6, [.ref fa, .ref fr, .ref la, .ref t_value_a, .ref t_plan_a, .ref pr, .int t_planned, .int t_head, .int t_end, .int t_latestEntry, .int t_counting, .int t_solutions])), (pr, .inr (4, [.ref pr_kind_a, .ref pr_place_a, .ref pr_who_a, .ref pr_width_a, .ref pr_term_a, .ref pr_start_a, .int pr_size, .int pr_rules, .ref pr_sort_a, .ref pr_arity_a, .ref pr_stratum_a, .ref pr_reach_a])), (pr_kind_a, .inl (cI, 240, .inl pr_kind)), (pr_width_a, .inl (cI, 240, .inl pr_width)), (pr_term_a, .inl (cI, 720, .inl pr_term))] H := hP
          have hD : va_D A [(t, .inr (6, [.ref fa, .ref fr, .ref la, .ref t_value_a, .ref t_plan_a, .ref pr, .int t_planned, .int t_head, .int t_end, .int t_latestEntry, .int t_counting, .int t_solutions])), (pr, .inr (4, [.ref pr_kind_a, .ref pr_place_a, .ref pr_who_a, .ref pr_width_a, .ref pr_term_a, .ref pr_start_a, .int pr_size, .int pr_rules, .ref pr_sort_a, .ref pr_arity_a, .ref pr_stratum_a, .ref pr_reach_a])), (pr_kind_a, .inl (cI, 240, .inl pr_kind)), (pr_width_a, .inl (cI, 240, .inl pr_width)), (pr_term_a, .inl (cI, 720, .inl pr_term))] := hD
          refine lv_istore (lv' := [(6, .int z4), (5, .int y5), (4, .int y4), (3, .int y3), (0, .ref t), (1, .int w1), (2, .int w2)]) hx hb dX6_chooseNext_55 hl (by decide) rfl (fun ls hl => ?_)
          refine lv_aload_n hx hb dX6_chooseNext_57 rfl (lv_at hl 4 rfl) ?_
          refine va_get (D := D) (ci := 6) (v := .ref pr) (C := RX6) (T := TX6) (N := 12) hx hb hts in_X6 hown hK hP 0 rfl rfl 5 (by decide) (hts _ kf_X6_38) (fun _ h9 => h9) rfl dX6_chooseNext_58 ?_
          refine va_get (D := D) (ci := 4) (v := .ref pr_kind_a) (C := RX4) (T := TX4) (N := 12) hx hb hts in_X4 hown hK hP 1 rfl rfl 0 (by decide) (hts _ kf_X6_80) (fun _ h9 => h9) rfl dX6_chooseNext_61 ?_
          refine lv_iload hx hb dX6_chooseNext_64 (lv_at hl 1 rfl) ?_
          refine va_iald hx hb hK hP 2 1 rfl rfl (gd_in hm) dX6_chooseNext_66 ?_
          have hm := gd_go hm
          refine lv_iconst (v := (1 : Int32)) hx hb dX6_chooseNext_67 (by decide) ?_
          refine lv_icmp_eq (tgt := 75) hx hb dX6_chooseNext_68 (by decide) (fun hc => ?_) (fun hc => ?_)
          · have hm := if_t hc hm
            refine lv_iconst (v := (0 : Int32)) hx hb dX6_chooseNext_75 (by decide) ?_
            refine lv_istore (lv' := [(7, .int (0 : Int32)), (6, .int z4), (5, .int y5), (4, .int y4), (3, .int y3), (0, .ref t), (1, .int w1), (2, .int w2)]) hx hb dX6_chooseNext_76 hl (by decide) rfl (fun ls hl => ?_)
            refine lv_iload hx hb dX6_chooseNext_78 (lv_at hl 0 rfl) ?_
            refine lv_if_eq (tgt := 91) hx hb dX6_chooseNext_80 (by decide) (fun hc => ?_) (fun hc => ?_)
            · have hm := if_t hc hm
              refine lv_iload hx hb dX6_chooseNext_91 (lv_at hl 0 rfl) ?_
              refine lv_if_ne (tgt := 110) hx hb dX6_chooseNext_93 (by decide) (fun hc => ?_) (fun hc => ?_)
              · have hm := if_f hc hm
                obtain ⟨v5, ev5⟩ : ∃ y : Int32, y = y5 + (1 : Int32) := ⟨_, rfl⟩
                have hm := lt_at ev5 hm
                refine lv_iinc (v := v5) (lv' := [(5, .int v5), (7, .int (0 : Int32)), (6, .int z4), (4, .int y4), (3, .int y3), (0, .ref t), (1, .int w1), (2, .int w2)]) hx hb dX6_chooseNext_110 hl (k := 2) rfl (by rw [ev5]; rfl) (by decide) rfl (fun ls hl => ?_)
                refine lv_goto (tgt := 13) hx hb dX6_chooseNext_113 (by decide) ?_
                exact ih v5 y4 y3 z hm hE hR H locs ls hP hD hS (lv_sub hl [0, 3, 4, 5, 6, 7] rfl)
              · have hm := if_t hc hm
                refine lv_iload hx hb dX6_chooseNext_96 (lv_at hl 1 rfl) ?_
                refine lv_iload hx hb dX6_chooseNext_98 (lv_at hl 3 rfl) ?_
                refine lv_icmp_ge (tgt := 110) hx hb dX6_chooseNext_100 (by decide) (fun hc => ?_) (fun hc => ?_)
                · have hm := if_t hc hm
                  obtain ⟨v6, ev6⟩ : ∃ y : Int32, y = y5 + (1 : Int32) := ⟨_, rfl⟩
                  have hm := lt_at ev6 hm
                  refine lv_iinc (v := v6) (lv' := [(5, .int v6), (7, .int (0 : Int32)), (6, .int z4), (4, .int y4), (3, .int y3), (0, .ref t), (1, .int w1), (2, .int w2)]) hx hb dX6_chooseNext_110 hl (k := 2) rfl (by rw [ev6]; rfl) (by decide) rfl (fun ls hl => ?_)
                  refine lv_goto (tgt := 13) hx hb dX6_chooseNext_113 (by decide) ?_
                  exact ih v6 y4 y3 z hm hE hR H locs ls hP hD hS (lv_sub hl [0, 3, 4, 5, 6, 7] rfl)
                · have hm := if_f hc hm
                  refine lv_iload hx hb dX6_chooseNext_103 (lv_at hl 2 rfl) ?_
                  refine lv_istore_n (lv' := [(3, .int y5), (7, .int (0 : Int32)), (6, .int z4), (5, .int y5), (4, .int y4), (0, .ref t), (1, .int w1), (2, .int w2)]) hx hb dX6_chooseNext_105 rfl hl (by decide) rfl (fun ls hl => ?_)
                  refine lv_iload hx hb dX6_chooseNext_106 (lv_at hl 2 rfl) ?_
                  refine lv_istore (lv' := [(4, .int z4), (3, .int y5), (7, .int (0 : Int32)), (6, .int z4), (5, .int y5), (0, .ref t), (1, .int w1), (2, .int w2)]) hx hb dX6_chooseNext_108 hl (by decide) rfl (fun ls hl => ?_)
                  obtain ⟨v7, ev7⟩ : ∃ y : Int32, y = y5 + (1 : Int32) := ⟨_, rfl⟩
                  have hm := lt_at ev7 hm
                  refine lv_iinc (v := v7) (lv' := [(5, .int v7), (4, .int z4), (3, .int y5), (7, .int (0 : Int32)), (6, .int z4), (0, .ref t), (1, .int w1), (2, .int w2)]) hx hb dX6_chooseNext_110 hl (k := 4) rfl (by rw [ev7]; rfl) (by decide) rfl (fun ls hl => ?_)
                  refine lv_goto (tgt := 13) hx hb dX6_chooseNext_113 (by decide) ?_
                  exact ih v7 z4 y5 z hm hE hR H locs ls hP hD hS (lv_sub hl [0, 1, 2, 5, 6, 7] rfl)
            · have hm := if_f hc hm
              refine lv_iload hx hb dX6_chooseNext_83 (lv_at hl 1 rfl) ?_
              refine lv_if_ne (tgt := 91) hx hb dX6_chooseNext_85 (by decide) (fun hc => ?_) (fun hc => ?_)
              · have hm := if_f hc hm
                refine lv_iload hx hb dX6_chooseNext_91 (lv_at hl 0 rfl) ?_
                refine lv_if_ne (tgt := 110) hx hb dX6_chooseNext_93 (by decide) (fun hc => ?_) (fun hc => ?_)
                · have hm := if_f hc hm
                  obtain ⟨v8, ev8⟩ : ∃ y : Int32, y = y5 + (1 : Int32) := ⟨_, rfl⟩
                  have hm := lt_at ev8 hm
                  refine lv_iinc (v := v8) (lv' := [(5, .int v8), (7, .int (0 : Int32)), (6, .int z4), (4, .int y4), (3, .int y3), (0, .ref t), (1, .int w1), (2, .int w2)]) hx hb dX6_chooseNext_110 hl (k := 2) rfl (by rw [ev8]; rfl) (by decide) rfl (fun ls hl => ?_)
                  refine lv_goto (tgt := 13) hx hb dX6_chooseNext_113 (by decide) ?_
                  exact ih v8 y4 y3 z hm hE hR H locs ls hP hD hS (lv_sub hl [0, 3, 4, 5, 6, 7] rfl)
                · have hm := if_t hc hm
                  refine lv_iload hx hb dX6_chooseNext_96 (lv_at hl 1 rfl) ?_
                  refine lv_iload hx hb dX6_chooseNext_98 (lv_at hl 3 rfl) ?_
                  refine lv_icmp_ge (tgt := 110) hx hb dX6_chooseNext_100 (by decide) (fun hc => ?_) (fun hc => ?_)
                  · have hm := if_t hc hm
                    obtain ⟨v9, ev9⟩ : ∃ y : Int32, y = y5 + (1 : Int32) := ⟨_, rfl⟩
                    have hm := lt_at ev9 hm
                    refine lv_iinc (v := v9) (lv' := [(5, .int v9), (7, .int (0 : Int32)), (6, .int z4), (4, .int y4), (3, .int y3), (0, .ref t), (1, .int w1), (2, .int w2)]) hx hb dX6_chooseNext_110 hl (k := 2) rfl (by rw [ev9]; rfl) (by decide) rfl (fun ls hl => ?_)
                    refine lv_goto (tgt := 13) hx hb dX6_chooseNext_113 (by decide) ?_
                    exact ih v9 y4 y3 z hm hE hR H locs ls hP hD hS (lv_sub hl [0, 3, 4, 5, 6, 7] rfl)
                  · have hm := if_f hc hm
                    refine lv_iload hx hb dX6_chooseNext_103 (lv_at hl 2 rfl) ?_
                    refine lv_istore_n (lv' := [(3, .int y5), (7, .int (0 : Int32)), (6, .int z4), (5, .int y5), (4, .int y4), (0, .ref t), (1, .int w1), (2, .int w2)]) hx hb dX6_chooseNext_105 rfl hl (by decide) rfl (fun ls hl => ?_)
                    refine lv_iload hx hb dX6_chooseNext_106 (lv_at hl 2 rfl) ?_
                    refine lv_istore (lv' := [(4, .int z4), (3, .int y5), (7, .int (0 : Int32)), (6, .int z4), (5, .int y5), (0, .ref t), (1, .int w1), (2, .int w2)]) hx hb dX6_chooseNext_108 hl (by decide) rfl (fun ls hl => ?_)
                    obtain ⟨v10, ev10⟩ : ∃ y : Int32, y = y5 + (1 : Int32) := ⟨_, rfl⟩
                    have hm := lt_at ev10 hm
                    refine lv_iinc (v := v10) (lv' := [(5, .int v10), (4, .int z4), (3, .int y5), (7, .int (0 : Int32)), (6, .int z4), (0, .ref t), (1, .int w1), (2, .int w2)]) hx hb dX6_chooseNext_110 hl (k := 4) rfl (by rw [ev10]; rfl) (by decide) rfl (fun ls hl => ?_)
                    refine lv_goto (tgt := 13) hx hb dX6_chooseNext_113 (by decide) ?_
                    exact ih v10 z4 y5 z hm hE hR H locs ls hP hD hS (lv_sub hl [0, 1, 2, 5, 6, 7] rfl)
              · have hm := if_t hc hm
                refine lv_iload hx hb dX6_chooseNext_88 (lv_at hl 2 rfl) ?_
                have ho := hR _ (Option.some.inj hm).symm
                exact k_iret hx hb hr hlocks hK hP hD hS dX6_chooseNext_90 hQ (by rw [← ho]) rfl
          · have hm := if_f hc hm
            refine lv_iconst (v := (1 : Int32)) hx hb dX6_chooseNext_71 (by decide) ?_
            refine lv_goto (tgt := 76) hx hb dX6_chooseNext_72 (by decide) ?_
            refine lv_istore (lv' := [(7, .int (1 : Int32)), (6, .int z4), (5, .int y5), (4, .int y4), (3, .int y3), (0, .ref t), (1, .int w1), (2, .int w2)]) hx hb dX6_chooseNext_76 hl (by decide) rfl (fun ls hl => ?_)
            refine lv_iload hx hb dX6_chooseNext_78 (lv_at hl 0 rfl) ?_
            refine lv_if_eq (tgt := 91) hx hb dX6_chooseNext_80 (by decide) (fun hc => ?_) (fun hc => ?_)
            · have hm := if_t hc hm
              refine lv_iload hx hb dX6_chooseNext_91 (lv_at hl 0 rfl) ?_
              refine lv_if_ne (tgt := 110) hx hb dX6_chooseNext_93 (by decide) (fun hc => ?_) (fun hc => ?_)
              · have hm := if_f hc hm
                obtain ⟨v11, ev11⟩ : ∃ y : Int32, y = y5 + (1 : Int32) := ⟨_, rfl⟩
                have hm := lt_at ev11 hm
                refine lv_iinc (v := v11) (lv' := [(5, .int v11), (7, .int (1 : Int32)), (6, .int z4), (4, .int y4), (3, .int y3), (0, .ref t), (1, .int w1), (2, .int w2)]) hx hb dX6_chooseNext_110 hl (k := 2) rfl (by rw [ev11]; rfl) (by decide) rfl (fun ls hl => ?_)
                refine lv_goto (tgt := 13) hx hb dX6_chooseNext_113 (by decide) ?_
                exact ih v11 y4 y3 z hm hE hR H locs ls hP hD hS (lv_sub hl [0, 3, 4, 5, 6, 7] rfl)
              · have hm := if_t hc hm
                refine lv_iload hx hb dX6_chooseNext_96 (lv_at hl 1 rfl) ?_
                refine lv_iload hx hb dX6_chooseNext_98 (lv_at hl 3 rfl) ?_
                refine lv_icmp_ge (tgt := 110) hx hb dX6_chooseNext_100 (by decide) (fun hc => ?_) (fun hc => ?_)
                · have hm := if_t hc hm
                  obtain ⟨v12, ev12⟩ : ∃ y : Int32, y = y5 + (1 : Int32) := ⟨_, rfl⟩
                  have hm := lt_at ev12 hm
                  refine lv_iinc (v := v12) (lv' := [(5, .int v12), (7, .int (1 : Int32)), (6, .int z4), (4, .int y4), (3, .int y3), (0, .ref t), (1, .int w1), (2, .int w2)]) hx hb dX6_chooseNext_110 hl (k := 2) rfl (by rw [ev12]; rfl) (by decide) rfl (fun ls hl => ?_)
                  refine lv_goto (tgt := 13) hx hb dX6_chooseNext_113 (by decide) ?_
                  exact ih v12 y4 y3 z hm hE hR H locs ls hP hD hS (lv_sub hl [0, 3, 4, 5, 6, 7] rfl)
                · have hm := if_f hc hm
                  refine lv_iload hx hb dX6_chooseNext_103 (lv_at hl 2 rfl) ?_
                  refine lv_istore_n (lv' := [(3, .int y5), (7, .int (1 : Int32)), (6, .int z4), (5, .int y5), (4, .int y4), (0, .ref t), (1, .int w1), (2, .int w2)]) hx hb dX6_chooseNext_105 rfl hl (by decide) rfl (fun ls hl => ?_)
                  refine lv_iload hx hb dX6_chooseNext_106 (lv_at hl 2 rfl) ?_
                  refine lv_istore (lv' := [(4, .int z4), (3, .int y5), (7, .int (1 : Int32)), (6, .int z4), (5, .int y5), (0, .ref t), (1, .int w1), (2, .int w2)]) hx hb dX6_chooseNext_108 hl (by decide) rfl (fun ls hl => ?_)
                  obtain ⟨v13, ev13⟩ : ∃ y : Int32, y = y5 + (1 : Int32) := ⟨_, rfl⟩
                  have hm := lt_at ev13 hm
                  refine lv_iinc (v := v13) (lv' := [(5, .int v13), (4, .int z4), (3, .int y5), (7, .int (1 : Int32)), (6, .int z4), (0, .ref t), (1, .int w1), (2, .int w2)]) hx hb dX6_chooseNext_110 hl (k := 4) rfl (by rw [ev13]; rfl) (by decide) rfl (fun ls hl => ?_)
                  refine lv_goto (tgt := 13) hx hb dX6_chooseNext_113 (by decide) ?_
                  exact ih v13 z4 y5 z hm hE hR H locs ls hP hD hS (lv_sub hl [0, 1, 2, 5, 6, 7] rfl)
            · have hm := if_f hc hm
              refine lv_iload hx hb dX6_chooseNext_83 (lv_at hl 1 rfl) ?_
              refine lv_if_ne (tgt := 91) hx hb dX6_chooseNext_85 (by decide) (fun hc => ?_) (fun hc => ?_)
              · have hm := if_f hc hm
                refine lv_iload hx hb dX6_chooseNext_91 (lv_at hl 0 rfl) ?_
                refine lv_if_ne (tgt := 110) hx hb dX6_chooseNext_93 (by decide) (fun hc => ?_) (fun hc => ?_)
                · have hm := if_f hc hm
                  obtain ⟨v14, ev14⟩ : ∃ y : Int32, y = y5 + (1 : Int32) := ⟨_, rfl⟩
                  have hm := lt_at ev14 hm
                  refine lv_iinc (v := v14) (lv' := [(5, .int v14), (7, .int (1 : Int32)), (6, .int z4), (4, .int y4), (3, .int y3), (0, .ref t), (1, .int w1), (2, .int w2)]) hx hb dX6_chooseNext_110 hl (k := 2) rfl (by rw [ev14]; rfl) (by decide) rfl (fun ls hl => ?_)
                  refine lv_goto (tgt := 13) hx hb dX6_chooseNext_113 (by decide) ?_
                  exact ih v14 y4 y3 z hm hE hR H locs ls hP hD hS (lv_sub hl [0, 3, 4, 5, 6, 7] rfl)
                · have hm := if_t hc hm
                  refine lv_iload hx hb dX6_chooseNext_96 (lv_at hl 1 rfl) ?_
                  refine lv_iload hx hb dX6_chooseNext_98 (lv_at hl 3 rfl) ?_
                  refine lv_icmp_ge (tgt := 110) hx hb dX6_chooseNext_100 (by decide) (fun hc => ?_) (fun hc => ?_)
                  · have hm := if_t hc hm
                    obtain ⟨v15, ev15⟩ : ∃ y : Int32, y = y5 + (1 : Int32) := ⟨_, rfl⟩
                    have hm := lt_at ev15 hm
                    refine lv_iinc (v := v15) (lv' := [(5, .int v15), (7, .int (1 : Int32)), (6, .int z4), (4, .int y4), (3, .int y3), (0, .ref t), (1, .int w1), (2, .int w2)]) hx hb dX6_chooseNext_110 hl (k := 2) rfl (by rw [ev15]; rfl) (by decide) rfl (fun ls hl => ?_)
                    refine lv_goto (tgt := 13) hx hb dX6_chooseNext_113 (by decide) ?_
                    exact ih v15 y4 y3 z hm hE hR H locs ls hP hD hS (lv_sub hl [0, 3, 4, 5, 6, 7] rfl)
                  · have hm := if_f hc hm
                    refine lv_iload hx hb dX6_chooseNext_103 (lv_at hl 2 rfl) ?_
                    refine lv_istore_n (lv' := [(3, .int y5), (7, .int (1 : Int32)), (6, .int z4), (5, .int y5), (4, .int y4), (0, .ref t), (1, .int w1), (2, .int w2)]) hx hb dX6_chooseNext_105 rfl hl (by decide) rfl (fun ls hl => ?_)
                    refine lv_iload hx hb dX6_chooseNext_106 (lv_at hl 2 rfl) ?_
                    refine lv_istore (lv' := [(4, .int z4), (3, .int y5), (7, .int (1 : Int32)), (6, .int z4), (5, .int y5), (0, .ref t), (1, .int w1), (2, .int w2)]) hx hb dX6_chooseNext_108 hl (by decide) rfl (fun ls hl => ?_)
                    obtain ⟨v16, ev16⟩ : ∃ y : Int32, y = y5 + (1 : Int32) := ⟨_, rfl⟩
                    have hm := lt_at ev16 hm
                    refine lv_iinc (v := v16) (lv' := [(5, .int v16), (4, .int z4), (3, .int y5), (7, .int (1 : Int32)), (6, .int z4), (0, .ref t), (1, .int w1), (2, .int w2)]) hx hb dX6_chooseNext_110 hl (k := 4) rfl (by rw [ev16]; rfl) (by decide) rfl (fun ls hl => ?_)
                    refine lv_goto (tgt := 13) hx hb dX6_chooseNext_113 (by decide) ?_
                    exact ih v16 z4 y5 z hm hE hR H locs ls hP hD hS (lv_sub hl [0, 1, 2, 5, 6, 7] rfl)
              · have hm := if_t hc hm
                refine lv_iload hx hb dX6_chooseNext_88 (lv_at hl 2 rfl) ?_
                have ho := hR _ (Option.some.inj hm).symm
                exact k_iret hx hb hr hlocks hK hP hD hS dX6_chooseNext_90 hQ (by rw [← ho]) rfl
        · have hm := if_f hc hm
          refine lv_goto (tgt := 110) hx hb dX6_chooseNext_36 (by decide) ?_
          obtain ⟨v17, ev17⟩ : ∃ y : Int32, y = y5 + (1 : Int32) := ⟨_, rfl⟩
          have hm := lt_at ev17 hm
          refine lv_iinc (v := v17) (lv' := [(5, .int v17), (4, .int y4), (3, .int y3), (0, .ref t), (1, .int w1), (2, .int w2)]) hx hb dX6_chooseNext_110 hl (k := 0) rfl (by rw [ev17]; rfl) (by decide) rfl (fun ls hl => ?_)
          refine lv_goto (tgt := 13) hx hb dX6_chooseNext_113 (by decide) ?_
          exact ih v17 y4 y3 z hm hE hR H locs ls hP hD hS (lv_sub hl [0, 1, 2, 3, 4, 5] rfl)
  unfold M_Search_chooseNext at hm
  obtain ⟨H, eH⟩ : ∃ H, H = s.heap := ⟨_, rfl⟩
  obtain ⟨locs, el⟩ : ∃ x : List Loc, x = [] := ⟨_, rfl⟩
  have hP : va_P D vwCl [(t, .inr (6, [.ref fa, .ref fr, .ref la, .ref t_value_a, .ref t_plan_a, .ref pr, .int t_planned, .int t_head, .int t_end, .int t_latestEntry, .int t_counting, .int t_solutions])), (pr, .inr (4, [.ref pr_kind_a, .ref pr_place_a, .ref pr_who_a, .ref pr_width_a, .ref pr_term_a, .ref pr_start_a, .int pr_size, .int pr_rules, .ref pr_sort_a, .ref pr_arity_a, .ref pr_stratum_a, .ref pr_reach_a])), (pr_kind_a, .inl (cI, 240, .inl pr_kind)), (pr_width_a, .inl (cI, 240, .inl pr_width)), (pr_term_a, .inl (cI, 720, .inl pr_term))] H := eH ▸ hP
  have hS : va_S A s.heap H locs := by rw [eH, el]; exact hS
  suffices hW : W p l e { frames := 1, cells := 0, slots := 0, locals := 24 } s m args below meth c H locs 0 0 Q (F0 m 0 ls []) by rw [eH, el] at hW; exact hW
  clear eH el
  refine lv_iconst (v := (-1 : Int32)) hx hb dX6_chooseNext_0 (by decide) ?_
  refine lv_istore_n (lv' := [(3, .int (-1 : Int32)), (0, .ref t), (1, .int x0), (2, .int x1)]) hx hb dX6_chooseNext_1 rfl hl (by decide) rfl (fun ls hl => ?_)
  refine lv_iconst (v := (5 : Int32)) hx hb dX6_chooseNext_2 (by decide) ?_
  refine lv_istore (lv' := [(4, .int (5 : Int32)), (3, .int (-1 : Int32)), (0, .ref t), (1, .int x0), (2, .int x1)]) hx hb dX6_chooseNext_3 hl (by decide) rfl (fun ls hl => ?_)
  refine lv_aload_n hx hb dX6_chooseNext_5 rfl (lv_at hl 2 rfl) ?_
  refine va_get (D := D) (ci := 6) (v := .int t_head) (C := RX6) (T := TX6) (N := 12) hx hb hts in_X6 hown hK hP 0 rfl rfl 7 (by decide) (hts _ kf_X6_22) (fun _ h9 => h9) rfl dX6_chooseNext_6 ?_
  refine lv_iconst (v := (1 : Int32)) hx hb dX6_chooseNext_9 (by decide) ?_
  refine lv_iadd hx hb dX6_chooseNext_10 ?_
  refine lv_topi (fun v1 ev1 => ?_)
  have hm := lt_at ev1 hm
  refine lv_istore (lv' := [(5, .int v1), (4, .int (5 : Int32)), (3, .int (-1 : Int32)), (0, .ref t), (1, .int x0), (2, .int x1)]) hx hb dX6_chooseNext_11 hl (by decide) rfl (fun ls hl => ?_)
  obtain ⟨z18, hz18, hm⟩ := bd_at hm
  refine L13 x0 x1 F v1 (5 : Int32) (-1 : Int32) z18 hz18 (fun q19 H locs ls ez hP hD hS hl => ?_) (fun o ho => ?_) H locs ls hP hD hS (lv_sub hl [0, 1, 2, 3, 4, 5] rfl)
  · have hm := cs_l ez hm
    refine lv_iload_n hx hb dX6_chooseNext_116 rfl (lv_at hl 0 rfl) ?_
    have ho := Option.some.inj hm
    exact k_iret hx hb hr hlocks hK hP hD hS dX6_chooseNext_117 hQ (by rw [← ho]) rfl
  · have hm := cs_r ho hm
    exact Option.some.inj hm
noncomputable def M_Search_makePlan_L32 (F : Nat) (t_head : Int32) (t_end : Int32) (pr_kind : Nat → Int32) (pr_width : Nat → Int32) (pr_term : Nat → Int32) : Nat → Int32 → Int32 → Int32 → (Nat → Int32) → (Int32) → Option ((Nat → Int32) × (Int32))
  | 0, _, _, _, _, _ => none
  | n + 1, y4, y3, y2, c_t_plan, c_t_planned => if y4 = (-1 : Int32) then (some (c_t_plan, c_t_planned)) else (if (5 : Int32) ≤ c_t_planned then (some (c_t_plan, c_t_planned)) else (gd_ c_t_planned 5 <| lt_ (upd c_t_plan c_t_planned.toNatClampNeg y4) fun f2 => lt_ ((c_t_planned + (1 : Int32))) fun v3 => lt_ ((y3 ||| ((1 : Int32) <<< ((y4 - t_head) &&& 31)))) fun v4 => bd_ (M_Program_variables F pr_width pr_term y4) fun z5 => lt_ ((y2 ||| z5)) fun v6 => bd_ (M_Search_chooseNext F t_head t_end pr_kind pr_width pr_term v4 v6) fun z7 => M_Search_makePlan_L32 F t_head t_end pr_kind pr_width pr_term n z7 v4 v6 f2 v3))
noncomputable def M_Search_makePlan (F : Nat) (t_plan : Nat → Int32) (t_planned : Int32) (t_head : Int32) (t_end : Int32) (t_latestEntry : Int32) (pr_kind : Nat → Int32) (pr_width : Nat → Int32) (pr_term : Nat → Int32) (x0 : Int32) : Option ((Nat → Int32) × (Int32)) := if t_latestEntry = (-1 : Int32) then (bd_ (M_Search_chooseNext F t_head t_end pr_kind pr_width pr_term (0 : Int32) x0) fun z1 => bd_ (M_Search_makePlan_L32 F t_head t_end pr_kind pr_width pr_term F z1 (0 : Int32) x0 t_plan (0 : Int32)) fun z8 => some (z8.1, z8.2)) else (bd_ (M_Search_makePlan_L32 F t_head t_end pr_kind pr_width pr_term F t_latestEntry (0 : Int32) x0 t_plan (0 : Int32)) fun z9 => some (z9.1, z9.2))
set_option maxRecDepth 100000 in
set_option maxHeartbeats 4000000 in
theorem K_Search_makePlan (l : Launch) (D : va_G) (cB cI cZ cJ : ClassId) (t : Nat) (fa : Nat) (fr : Nat) (la : Nat) (t_value_a : Nat) (t_plan_a : Nat) (pr : Nat) (pr_kind_a : Nat) (pr_place_a : Nat) (pr_who_a : Nat) (pr_width_a : Nat) (pr_term_a : Nat) (pr_start_a : Nat) (pr_sort_a : Nat) (pr_arity_a : Nat) (pr_stratum_a : Nat) (pr_reach_a : Nat) (t_planned : Int32) (t_head : Int32) (t_end : Int32) (t_latestEntry : Int32) (t_counting : Int32) (t_solutions : Int32) (t_plan : Nat → Int32) (pr_size : Int32) (pr_rules : Int32) (pr_kind : Nat → Int32) (pr_width : Nat → Int32) (pr_term : Nat → Int32) (x0 : Int32) (F : Nat) (out : (Nat → Int32) × (Int32)) (hm : M_Search_makePlan F t_plan t_planned t_head t_end t_latestEntry pr_kind pr_width pr_term x0 = some out) : KC l yX6_makePlan cX6_makePlan 5 none { frames := 2, cells := 0, slots := 0, locals := 51 } D (kTy cB cI cZ cJ) [.ref t, .int x0] [(t, .inr (6, [.ref fa, .ref fr, .ref la, .ref t_value_a, .ref t_plan_a, .ref pr, .int t_planned, .int t_head, .int t_end, .int t_latestEntry, .int t_counting, .int t_solutions])), (t_plan_a, .inl (cI, 5, .inl t_plan)), (pr, .inr (4, [.ref pr_kind_a, .ref pr_place_a, .ref pr_who_a, .ref pr_width_a, .ref pr_term_a, .ref pr_start_a, .int pr_size, .int pr_rules, .ref pr_sort_a, .ref pr_arity_a, .ref pr_stratum_a, .ref pr_reach_a])), (pr_kind_a, .inl (cI, 240, .inl pr_kind)), (pr_width_a, .inl (cI, 240, .inl pr_width)), (pr_term_a, .inl (cI, 720, .inl pr_term))] none [(t, .inr (6, [.ref fa, .ref fr, .ref la, .ref t_value_a, .ref t_plan_a, .ref pr, .int out.2, .int t_head, .int t_end, .int t_latestEntry, .int t_counting, .int t_solutions])), (t_plan_a, .inl (cI, 5, .inl out.1)), (pr, .inr (4, [.ref pr_kind_a, .ref pr_place_a, .ref pr_who_a, .ref pr_width_a, .ref pr_term_a, .ref pr_start_a, .int pr_size, .int pr_rules, .ref pr_sort_a, .ref pr_arity_a, .ref pr_stratum_a, .ref pr_reach_a])), (pr_kind_a, .inl (cI, 240, .inl pr_kind)), (pr_width_a, .inl (cI, 240, .inl pr_width)), (pr_term_a, .inl (cI, 720, .inl pr_term))] := by
  refine KC.of (by decide +kernel) (Nat.le_of_ble_eq_true rfl) ?_
  intro p e s m below meth c A ls args Q hQ CX hA hK hP hD hl
  obtain ⟨hx, hb, hr, hml, hown, hts, hlocks⟩ := CX
  have hown : s.vm.findClass RX6 = some m.cls := hown
  have hS : va_S A s.heap s.heap [] := va_S.rf
  have hl : lv_has ls 5 [(0, .ref t), (1, .int x0)] := hl
  have L32 : ∀ (n : Nat) (y4 : Int32) (y3 : Int32) (y2 : Int32) (c_t_plan : Nat → Int32) (c_t_planned : Int32) (z : ((Nat → Int32) × (Int32))), M_Search_makePlan_L32 F t_head t_end pr_kind pr_width pr_term n y4 y3 y2 c_t_plan c_t_planned = some z →
      (∀ (H : Heap) (locs : List Loc) (ls : Array Slot), va_P D vwCl [(t, .inr (6, [.ref fa, .ref fr, .ref la, .ref t_value_a, .ref t_plan_a, .ref pr, .int z.2, .int t_head, .int t_end, .int t_latestEntry, .int t_counting, .int t_solutions])), (t_plan_a, .inl (cI, 5, .inl z.1)), (pr, .inr (4, [.ref pr_kind_a, .ref pr_place_a, .ref pr_who_a, .ref pr_width_a, .ref pr_term_a, .ref pr_start_a, .int pr_size, .int pr_rules, .ref pr_sort_a, .ref pr_arity_a, .ref pr_stratum_a, .ref pr_reach_a])), (pr_kind_a, .inl (cI, 240, .inl pr_kind)), (pr_width_a, .inl (cI, 240, .inl pr_width)), (pr_term_a, .inl (cI, 720, .inl pr_term))] H → va_D A [(t, .inr (6, [.ref fa, .ref fr, .ref la, .ref t_value_a, .ref t_plan_a, .ref pr, .int z.2, .int t_head, .int t_end, .int t_latestEntry, .int t_counting, .int t_solutions])), (t_plan_a, .inl (cI, 5, .inl z.1)), (pr, .inr (4, [.ref pr_kind_a, .ref pr_place_a, .ref pr_who_a, .ref pr_width_a, .ref pr_term_a, .ref pr_start_a, .int pr_size, .int pr_rules, .ref pr_sort_a, .ref pr_arity_a, .ref pr_stratum_a, .ref pr_reach_a])), (pr_kind_a, .inl (cI, 240, .inl pr_kind)), (pr_width_a, .inl (cI, 240, .inl pr_width)), (pr_term_a, .inl (cI, 720, .inl pr_term))] → va_S A s.heap H locs → lv_has ls 5 [] → W p l e { frames := 2, cells := 0, slots := 0, locals := 51 } s m args below meth c H locs 0 0 Q (F0 m 102 ls [])) →
      ∀ (H : Heap) (locs : List Loc) (ls : Array Slot), va_P D vwCl [(t, .inr (6, [.ref fa, .ref fr, .ref la, .ref t_value_a, .ref t_plan_a, .ref pr, .int c_t_planned, .int t_head, .int t_end, .int t_latestEntry, .int t_counting, .int t_solutions])), (t_plan_a, .inl (cI, 5, .inl c_t_plan)), (pr, .inr (4, [.ref pr_kind_a, .ref pr_place_a, .ref pr_who_a, .ref pr_width_a, .ref pr_term_a, .ref pr_start_a, .int pr_size, .int pr_rules, .ref pr_sort_a, .ref pr_arity_a, .ref pr_stratum_a, .ref pr_reach_a])), (pr_kind_a, .inl (cI, 240, .inl pr_kind)), (pr_width_a, .inl (cI, 240, .inl pr_width)), (pr_term_a, .inl (cI, 720, .inl pr_term))] H → va_D A [(t, .inr (6, [.ref fa, .ref fr, .ref la, .ref t_value_a, .ref t_plan_a, .ref pr, .int c_t_planned, .int t_head, .int t_end, .int t_latestEntry, .int t_counting, .int t_solutions])), (t_plan_a, .inl (cI, 5, .inl c_t_plan)), (pr, .inr (4, [.ref pr_kind_a, .ref pr_place_a, .ref pr_who_a, .ref pr_width_a, .ref pr_term_a, .ref pr_start_a, .int pr_size, .int pr_rules, .ref pr_sort_a, .ref pr_arity_a, .ref pr_stratum_a, .ref pr_reach_a])), (pr_kind_a, .inl (cI, 240, .inl pr_kind)), (pr_width_a, .inl (cI, 240, .inl pr_width)), (pr_term_a, .inl (cI, 720, .inl pr_term))] → va_S A s.heap H locs → lv_has ls 5 [(4, .int y4), (3, .int y3), (2, .int y2), (0, .ref t)] → W p l e { frames := 2, cells := 0, slots := 0, locals := 51 } s m args below meth c H locs 0 0 Q (F0 m 32 ls []) := by
    intro  n
    induction n with
    | zero => intro y4 y3 y2 c_t_plan c_t_planned z hm; unfold M_Search_makePlan_L32 at hm; cases hm
    | succ n ih =>
      intro y4 y3 y2 c_t_plan c_t_planned z hm hE H locs ls hP hD hS hl
      unfold M_Search_makePlan_L32 at hm
      refine lv_iload hx hb dX6_makePlan_32 (lv_at hl 0 rfl) ?_
      refine lv_iconst (v := (-1 : Int32)) hx hb dX6_makePlan_34 (by decide) ?_
      refine lv_icmp_eq (tgt := 102) hx hb dX6_makePlan_35 (by decide) (fun hc => ?_) (fun hc => ?_)
      · have hm := if_t hc hm
        cases hm
        exact hE H locs ls hP hD hS (lv_sub hl [] rfl)
      · have hm := if_f hc hm
        refine lv_aload_n hx hb dX6_makePlan_38 rfl (lv_at hl 3 rfl) ?_
        refine va_get (D := D) (ci := 6) (v := .int c_t_planned) (C := RX6) (T := TX6) (N := 12) hx hb hts in_X6 hown hK hP 0 rfl rfl 6 (by decide) (hts _ kf_X6_18) (fun _ h9 => h9) rfl dX6_makePlan_39 ?_
        refine lv_iconst (v := (5 : Int32)) hx hb dX6_makePlan_42 (by decide) ?_
        refine lv_icmp_ge (tgt := 102) hx hb dX6_makePlan_43 (by decide) (fun hc => ?_) (fun hc => ?_)
        · have hm := if_t hc hm
          cases hm
          exact hE H locs ls hP hD hS (lv_sub hl [] rfl)
        · have hm := if_f hc hm
          refine lv_aload_n hx hb dX6_makePlan_46 rfl (lv_at hl 3 rfl) ?_
          refine va_get (D := D) (ci := 6) (v := .ref t_plan_a) (C := RX6) (T := TX6) (N := 12) hx hb hts in_X6 hown hK hP 0 rfl rfl 4 (by decide) (hts _ kf_X6_15) (fun _ h9 => h9) rfl dX6_makePlan_47 ?_
          refine lv_aload_n hx hb dX6_makePlan_50 rfl (lv_at hl 3 rfl) ?_
          refine va_get (D := D) (ci := 6) (v := .int c_t_planned) (C := RX6) (T := TX6) (N := 12) hx hb hts in_X6 hown hK hP 0 rfl rfl 6 (by decide) (hts _ kf_X6_18) (fun _ h9 => h9) rfl dX6_makePlan_51 ?_
          refine lv_iload hx hb dX6_makePlan_54 (lv_at hl 0 rfl) ?_
          refine k_iast hx hb hK hP hD hS 1 1 rfl rfl (gd_in hm) dX6_makePlan_56 (fun f2 ef2 H locs hP hD hS => ?_)
          have hm := lt_at ef2 (gd_go hm)
          have hP : va_P D vwCl [(t, .inr (6, [.ref fa, .ref fr, .ref la, .ref t_value_a, .ref t_plan_a, .ref pr, .int c_t_planned, .int t_head, .int t_end, .int t_latestEntry, .int t_counting, .int t_solutions])), (t_plan_a, .inl (cI, 5, .inl f2)), (pr, .inr (4, [.ref pr_kind_a, .ref pr_place_a, .ref pr_who_a, .ref pr_width_a, .ref pr_term_a, .ref pr_start_a, .int pr_size, .int pr_rules, .ref pr_sort_a, .ref pr_arity_a, .ref pr_stratum_a, .ref pr_reach_a])), (pr_kind_a, .inl (cI, 240, .inl pr_kind)), (pr_width_a, .inl (cI, 240, .inl pr_width)), (pr_term_a, .inl (cI, 720, .inl pr_term))] H := hP
          have hD : va_D A [(t, .inr (6, [.ref fa, .ref fr, .ref la, .ref t_value_a, .ref t_plan_a, .ref pr, .int c_t_planned, .int t_head, .int t_end, .int t_latestEntry, .int t_counting, .int t_solutions])), (t_plan_a, .inl (cI, 5, .inl f2)), (pr, .inr (4, [.ref pr_kind_a, .ref pr_place_a, .ref pr_who_a, .ref pr_width_a, .ref pr_term_a, .ref pr_start_a, .int pr_size, .int pr_rules, .ref pr_sort_a, .ref pr_arity_a, .ref pr_stratum_a, .ref pr_reach_a])), (pr_kind_a, .inl (cI, 240, .inl pr_kind)), (pr_width_a, .inl (cI, 240, .inl pr_width)), (pr_term_a, .inl (cI, 720, .inl pr_term))] := hD
          refine lv_aload_n hx hb dX6_makePlan_57 rfl (lv_at hl 3 rfl) ?_
          refine lv_dup hx hb dX6_makePlan_58 rfl ?_
          refine va_get (D := D) (ci := 6) (v := .int c_t_planned) (C := RX6) (T := TX6) (N := 12) hx hb hts in_X6 hown hK hP 0 rfl rfl 6 (by decide) (hts _ kf_X6_18) (fun _ h9 => h9) rfl dX6_makePlan_59 ?_
          refine lv_iconst (v := (1 : Int32)) hx hb dX6_makePlan_62 (by decide) ?_
          refine lv_iadd hx hb dX6_makePlan_63 ?_
          refine lv_topi (fun v3 ev3 => ?_)
          have hm := lt_at ev3 hm
          refine va_put (D := D) (ci := 6) (v := .int v3) (ty := .int) (C := RX6) (T := TX6) (N := 12) hx hb hts in_X6 tyX6 tyX6_ok nmX6 hown hK hP hD hS 0 rfl rfl 6 (by decide) (hts _ kf_X6_18) (fun _ h9 => h9) rfl (by decide +kernel) rfl rfl (Nat.le_of_ble_eq_true rfl) dX6_makePlan_64 (fun H locs hP hD hS => ?_)
          have hP : va_P D vwCl [(t, .inr (6, [.ref fa, .ref fr, .ref la, .ref t_value_a, .ref t_plan_a, .ref pr, .int v3, .int t_head, .int t_end, .int t_latestEntry, .int t_counting, .int t_solutions])), (t_plan_a, .inl (cI, 5, .inl f2)), (pr, .inr (4, [.ref pr_kind_a, .ref pr_place_a, .ref pr_who_a, .ref pr_width_a, .ref pr_term_a, .ref pr_start_a, .int pr_size, .int pr_rules, .ref pr_sort_a, .ref pr_arity_a, .ref pr_stratum_a, .ref pr_reach_a])), (pr_kind_a, .inl (cI, 240, .inl pr_kind)), (pr_width_a, .inl (cI, 240, .inl pr_width)), (pr_term_a, .inl (cI, 720, .inl pr_term))] H := hP
          have hD : va_D A [(t, .inr (6, [.ref fa, .ref fr, .ref la, .ref t_value_a, .ref t_plan_a, .ref pr, .int v3, .int t_head, .int t_end, .int t_latestEntry, .int t_counting, .int t_solutions])), (t_plan_a, .inl (cI, 5, .inl f2)), (pr, .inr (4, [.ref pr_kind_a, .ref pr_place_a, .ref pr_who_a, .ref pr_width_a, .ref pr_term_a, .ref pr_start_a, .int pr_size, .int pr_rules, .ref pr_sort_a, .ref pr_arity_a, .ref pr_stratum_a, .ref pr_reach_a])), (pr_kind_a, .inl (cI, 240, .inl pr_kind)), (pr_width_a, .inl (cI, 240, .inl pr_width)), (pr_term_a, .inl (cI, 720, .inl pr_term))] := hD
          refine lv_iload_n hx hb dX6_makePlan_67 rfl (lv_at hl 1 rfl) ?_
          refine lv_iconst (v := (1 : Int32)) hx hb dX6_makePlan_68 (by decide) ?_
          refine lv_iload hx hb dX6_makePlan_69 (lv_at hl 0 rfl) ?_
          refine lv_aload_n hx hb dX6_makePlan_71 rfl (lv_at hl 3 rfl) ?_
          refine va_get (D := D) (ci := 6) (v := .int t_head) (C := RX6) (T := TX6) (N := 12) hx hb hts in_X6 hown hK hP 0 rfl rfl 7 (by decide) (hts _ kf_X6_22) (fun _ h9 => h9) rfl dX6_makePlan_72 ?_
          refine lv_isub hx hb dX6_makePlan_75 ?_
          refine lv_ishl hx hb dX6_makePlan_76 ?_
          refine lv_ior hx hb dX6_makePlan_77 ?_
          refine lv_topi (fun v4 ev4 => ?_)
          have hm := lt_at ev4 hm
          refine lv_istore_n (lv' := [(3, .int v4), (4, .int y4), (2, .int y2), (0, .ref t)]) hx hb dX6_makePlan_78 rfl hl (by decide) rfl (fun ls hl => ?_)
          refine lv_iload_n hx hb dX6_makePlan_79 rfl (lv_at hl 2 rfl) ?_
          refine lv_aload_n hx hb dX6_makePlan_80 rfl (lv_at hl 3 rfl) ?_
          refine va_get (D := D) (ci := 6) (v := .ref pr) (C := RX6) (T := TX6) (N := 12) hx hb hts in_X6 hown hK hP 0 rfl rfl 5 (by decide) (hts _ kf_X6_38) (fun _ h9 => h9) rfl dX6_makePlan_81 ?_
          refine lv_iload hx hb dX6_makePlan_84 (lv_at hl 1 rfl) ?_
          obtain ⟨z5, hz5, hm⟩ := bd_at hm
          refine k_callV (As := [.int y4]) (rest := [.int y2]) (wr := [(t, .inr (6, [.ref fa, .ref fr, .ref la, .ref t_value_a, .ref t_plan_a, .ref pr, .int v3, .int t_head, .int t_end, .int t_latestEntry, .int t_counting, .int t_solutions])), (t_plan_a, .inl (cI, 5, .inl f2)), (pr_kind_a, .inl (cI, 240, .inl pr_kind))]) (ws1 := [(t, .inr (6, [.ref fa, .ref fr, .ref la, .ref t_value_a, .ref t_plan_a, .ref pr, .int v3, .int t_head, .int t_end, .int t_latestEntry, .int t_counting, .int t_solutions])), (t_plan_a, .inl (cI, 5, .inl f2)), (pr, .inr (4, [.ref pr_kind_a, .ref pr_place_a, .ref pr_who_a, .ref pr_width_a, .ref pr_term_a, .ref pr_start_a, .int pr_size, .int pr_rules, .ref pr_sort_a, .ref pr_arity_a, .ref pr_stratum_a, .ref pr_reach_a])), (pr_kind_a, .inl (cI, 240, .inl pr_kind)), (pr_width_a, .inl (cI, 240, .inl pr_width)), (pr_term_a, .inl (cI, 720, .inl pr_term))]) [2, 4, 5] [0, 1, 3] [0, 1, 3, 2, 4, 5] (K_Program_variables l D cB cI cZ cJ pr pr_kind_a pr_place_a pr_who_a pr_width_a pr_term_a pr_start_a pr_sort_a pr_arity_a pr_stratum_a pr_reach_a pr_size pr_rules pr_width pr_term y4 F z5 hz5) mf_X4_variables km_X6_71 hx hb hml hown hts hK hP hD hS hA hl.1 ⟨Nat.zero_le _, Nat.zero_le _⟩ dX6_makePlan_86 rfl rfl (Nat.le_of_ble_eq_true rfl) ⟨⟨rfl, rfl⟩, Nat.le_of_ble_eq_true rfl, Nat.le_of_ble_eq_true rfl⟩ rfl rfl (by decide) rfl rfl rfl rfl (fun H locs hP hD hS => ?_)
          have hP : va_P D vwCl [(t, .inr (6, [.ref fa, .ref fr, .ref la, .ref t_value_a, .ref t_plan_a, .ref pr, .int v3, .int t_head, .int t_end, .int t_latestEntry, .int t_counting, .int t_solutions])), (t_plan_a, .inl (cI, 5, .inl f2)), (pr, .inr (4, [.ref pr_kind_a, .ref pr_place_a, .ref pr_who_a, .ref pr_width_a, .ref pr_term_a, .ref pr_start_a, .int pr_size, .int pr_rules, .ref pr_sort_a, .ref pr_arity_a, .ref pr_stratum_a, .ref pr_reach_a])), (pr_kind_a, .inl (cI, 240, .inl pr_kind)), (pr_width_a, .inl (cI, 240, .inl pr_width)), (pr_term_a, .inl (cI, 720, .inl pr_term))] H := hP
          have hD : va_D A [(t, .inr (6, [.ref fa, .ref fr, .ref la, .ref t_value_a, .ref t_plan_a, .ref pr, .int v3, .int t_head, .int t_end, .int t_latestEntry, .int t_counting, .int t_solutions])), (t_plan_a, .inl (cI, 5, .inl f2)), (pr, .inr (4, [.ref pr_kind_a, .ref pr_place_a, .ref pr_who_a, .ref pr_width_a, .ref pr_term_a, .ref pr_start_a, .int pr_size, .int pr_rules, .ref pr_sort_a, .ref pr_arity_a, .ref pr_stratum_a, .ref pr_reach_a])), (pr_kind_a, .inl (cI, 240, .inl pr_kind)), (pr_width_a, .inl (cI, 240, .inl pr_width)), (pr_term_a, .inl (cI, 720, .inl pr_term))] := hD
          refine lv_ior hx hb dX6_makePlan_89 ?_
          refine lv_topi (fun v6 ev6 => ?_)
          have hm := lt_at ev6 hm
          refine lv_istore_n (lv' := [(2, .int v6), (3, .int v4), (4, .int y4), (0, .ref t)]) hx hb dX6_makePlan_90 rfl hl (by decide) rfl (fun ls hl => ?_)
          refine lv_aload_n hx hb dX6_makePlan_91 rfl (lv_at hl 3 rfl) ?_
          refine lv_iload_n hx hb dX6_makePlan_92 rfl (lv_at hl 1 rfl) ?_
          refine lv_iload_n hx hb dX6_makePlan_93 rfl (lv_at hl 0 rfl) ?_
          obtain ⟨z7, hz7, hm⟩ := bd_at hm
          refine k_callV (As := [.int v4, .int v6]) (rest := []) (wr := [(t_plan_a, .inl (cI, 5, .inl f2))]) (ws1 := [(t, .inr (6, [.ref fa, .ref fr, .ref la, .ref t_value_a, .ref t_plan_a, .ref pr, .int v3, .int t_head, .int t_end, .int t_latestEntry, .int t_counting, .int t_solutions])), (t_plan_a, .inl (cI, 5, .inl f2)), (pr, .inr (4, [.ref pr_kind_a, .ref pr_place_a, .ref pr_who_a, .ref pr_width_a, .ref pr_term_a, .ref pr_start_a, .int pr_size, .int pr_rules, .ref pr_sort_a, .ref pr_arity_a, .ref pr_stratum_a, .ref pr_reach_a])), (pr_kind_a, .inl (cI, 240, .inl pr_kind)), (pr_width_a, .inl (cI, 240, .inl pr_width)), (pr_term_a, .inl (cI, 720, .inl pr_term))]) [0, 2, 3, 4, 5] [1] [1, 0, 2, 3, 4, 5] (K_Search_chooseNext l D cB cI cZ cJ t fa fr la t_value_a t_plan_a pr pr_kind_a pr_place_a pr_who_a pr_width_a pr_term_a pr_start_a pr_sort_a pr_arity_a pr_stratum_a pr_reach_a v3 t_head t_end t_latestEntry t_counting t_solutions pr_size pr_rules pr_kind pr_width pr_term v4 v6 F z7 hz7) mf_X6_chooseNext km_X6_101 hx hb hml hown hts hK hP hD hS hA hl.1 ⟨Nat.zero_le _, Nat.zero_le _⟩ dX6_makePlan_94 rfl rfl (Nat.le_of_ble_eq_true rfl) ⟨⟨rfl, rfl⟩, Nat.le_of_ble_eq_true rfl, Nat.le_of_ble_eq_true rfl⟩ rfl rfl (by decide) rfl rfl rfl rfl (fun H locs hP hD hS => ?_)
          have hP : va_P D vwCl [(t, .inr (6, [.ref fa, .ref fr, .ref la, .ref t_value_a, .ref t_plan_a, .ref pr, .int v3, .int t_head, .int t_end, .int t_latestEntry, .int t_counting, .int t_solutions])), (t_plan_a, .inl (cI, 5, .inl f2)), (pr, .inr (4, [.ref pr_kind_a, .ref pr_place_a, .ref pr_who_a, .ref pr_width_a, .ref pr_term_a, .ref pr_start_a, .int pr_size, .int pr_rules, .ref pr_sort_a, .ref pr_arity_a, .ref pr_stratum_a, .ref pr_reach_a])), (pr_kind_a, .inl (cI, 240, .inl pr_kind)), (pr_width_a, .inl (cI, 240, .inl pr_width)), (pr_term_a, .inl (cI, 720, .inl pr_term))] H := hP
          have hD : va_D A [(t, .inr (6, [.ref fa, .ref fr, .ref la, .ref t_value_a, .ref t_plan_a, .ref pr, .int v3, .int t_head, .int t_end, .int t_latestEntry, .int t_counting, .int t_solutions])), (t_plan_a, .inl (cI, 5, .inl f2)), (pr, .inr (4, [.ref pr_kind_a, .ref pr_place_a, .ref pr_who_a, .ref pr_width_a, .ref pr_term_a, .ref pr_start_a, .int pr_size, .int pr_rules, .ref pr_sort_a, .ref pr_arity_a, .ref pr_stratum_a, .ref pr_reach_a])), (pr_kind_a, .inl (cI, 240, .inl pr_kind)), (pr_width_a, .inl (cI, 240, .inl pr_width)), (pr_term_a, .inl (cI, 720, .inl pr_term))] := hD
          refine lv_istore (lv' := [(4, .int z7), (2, .int v6), (3, .int v4), (0, .ref t)]) hx hb dX6_makePlan_97 hl (by decide) rfl (fun ls hl => ?_)
          refine lv_goto (tgt := 32) hx hb dX6_makePlan_99 (by decide) ?_
          exact ih z7 v4 v6 f2 v3 z hm hE H locs ls hP hD hS (lv_sub hl [0, 2, 1, 3] rfl)
  unfold M_Search_makePlan at hm
  obtain ⟨H, eH⟩ : ∃ H, H = s.heap := ⟨_, rfl⟩
  obtain ⟨locs, el⟩ : ∃ x : List Loc, x = [] := ⟨_, rfl⟩
  have hP : va_P D vwCl [(t, .inr (6, [.ref fa, .ref fr, .ref la, .ref t_value_a, .ref t_plan_a, .ref pr, .int t_planned, .int t_head, .int t_end, .int t_latestEntry, .int t_counting, .int t_solutions])), (t_plan_a, .inl (cI, 5, .inl t_plan)), (pr, .inr (4, [.ref pr_kind_a, .ref pr_place_a, .ref pr_who_a, .ref pr_width_a, .ref pr_term_a, .ref pr_start_a, .int pr_size, .int pr_rules, .ref pr_sort_a, .ref pr_arity_a, .ref pr_stratum_a, .ref pr_reach_a])), (pr_kind_a, .inl (cI, 240, .inl pr_kind)), (pr_width_a, .inl (cI, 240, .inl pr_width)), (pr_term_a, .inl (cI, 720, .inl pr_term))] H := eH ▸ hP
  have hS : va_S A s.heap H locs := by rw [eH, el]; exact hS
  suffices hW : W p l e { frames := 2, cells := 0, slots := 0, locals := 51 } s m args below meth c H locs 0 0 Q (F0 m 0 ls []) by rw [eH, el] at hW; exact hW
  clear eH el
  refine lv_iload_n hx hb dX6_makePlan_0 rfl (lv_at hl 1 rfl) ?_
  refine lv_istore_n (lv' := [(2, .int x0), (0, .ref t), (1, .int x0)]) hx hb dX6_makePlan_1 rfl hl (by decide) rfl (fun ls hl => ?_)
  refine lv_iconst (v := (0 : Int32)) hx hb dX6_makePlan_2 (by decide) ?_
  refine lv_istore_n (lv' := [(3, .int (0 : Int32)), (2, .int x0), (0, .ref t), (1, .int x0)]) hx hb dX6_makePlan_3 rfl hl (by decide) rfl (fun ls hl => ?_)
  refine lv_aload_n hx hb dX6_makePlan_4 rfl (lv_at hl 2 rfl) ?_
  refine lv_iconst (v := (0 : Int32)) hx hb dX6_makePlan_5 (by decide) ?_
  refine va_put (D := D) (ci := 6) (v := .int (0 : Int32)) (ty := .int) (C := RX6) (T := TX6) (N := 12) hx hb hts in_X6 tyX6 tyX6_ok nmX6 hown hK hP hD hS 0 rfl rfl 6 (by decide) (hts _ kf_X6_18) (fun _ h9 => h9) rfl (by decide +kernel) rfl rfl (Nat.le_of_ble_eq_true rfl) dX6_makePlan_6 (fun H locs hP hD hS => ?_)
  have hP : va_P D vwCl [(t, .inr (6, [.ref fa, .ref fr, .ref la, .ref t_value_a, .ref t_plan_a, .ref pr, .int (0 : Int32), .int t_head, .int t_end, .int t_latestEntry, .int t_counting, .int t_solutions])), (t_plan_a, .inl (cI, 5, .inl t_plan)), (pr, .inr (4, [.ref pr_kind_a, .ref pr_place_a, .ref pr_who_a, .ref pr_width_a, .ref pr_term_a, .ref pr_start_a, .int pr_size, .int pr_rules, .ref pr_sort_a, .ref pr_arity_a, .ref pr_stratum_a, .ref pr_reach_a])), (pr_kind_a, .inl (cI, 240, .inl pr_kind)), (pr_width_a, .inl (cI, 240, .inl pr_width)), (pr_term_a, .inl (cI, 720, .inl pr_term))] H := hP
  have hD : va_D A [(t, .inr (6, [.ref fa, .ref fr, .ref la, .ref t_value_a, .ref t_plan_a, .ref pr, .int (0 : Int32), .int t_head, .int t_end, .int t_latestEntry, .int t_counting, .int t_solutions])), (t_plan_a, .inl (cI, 5, .inl t_plan)), (pr, .inr (4, [.ref pr_kind_a, .ref pr_place_a, .ref pr_who_a, .ref pr_width_a, .ref pr_term_a, .ref pr_start_a, .int pr_size, .int pr_rules, .ref pr_sort_a, .ref pr_arity_a, .ref pr_stratum_a, .ref pr_reach_a])), (pr_kind_a, .inl (cI, 240, .inl pr_kind)), (pr_width_a, .inl (cI, 240, .inl pr_width)), (pr_term_a, .inl (cI, 720, .inl pr_term))] := hD
  refine lv_aload_n hx hb dX6_makePlan_9 rfl (lv_at hl 2 rfl) ?_
  refine va_get (D := D) (ci := 6) (v := .int t_latestEntry) (C := RX6) (T := TX6) (N := 12) hx hb hts in_X6 hown hK hP 0 rfl rfl 9 (by decide) (hts _ kf_X6_28) (fun _ h9 => h9) rfl dX6_makePlan_10 ?_
  refine lv_iconst (v := (-1 : Int32)) hx hb dX6_makePlan_13 (by decide) ?_
  refine lv_icmp_eq (tgt := 24) hx hb dX6_makePlan_14 (by decide) (fun hc => ?_) (fun hc => ?_)
  · have hm := if_t hc hm
    refine lv_aload_n hx hb dX6_makePlan_24 rfl (lv_at hl 2 rfl) ?_
    refine lv_iload_n hx hb dX6_makePlan_25 rfl (lv_at hl 0 rfl) ?_
    refine lv_iload_n hx hb dX6_makePlan_26 rfl (lv_at hl 1 rfl) ?_
    obtain ⟨z1, hz1, hm⟩ := bd_at hm
    refine k_callV (As := [.int (0 : Int32), .int x0]) (rest := []) (wr := [(t_plan_a, .inl (cI, 5, .inl t_plan))]) (ws1 := [(t, .inr (6, [.ref fa, .ref fr, .ref la, .ref t_value_a, .ref t_plan_a, .ref pr, .int (0 : Int32), .int t_head, .int t_end, .int t_latestEntry, .int t_counting, .int t_solutions])), (t_plan_a, .inl (cI, 5, .inl t_plan)), (pr, .inr (4, [.ref pr_kind_a, .ref pr_place_a, .ref pr_who_a, .ref pr_width_a, .ref pr_term_a, .ref pr_start_a, .int pr_size, .int pr_rules, .ref pr_sort_a, .ref pr_arity_a, .ref pr_stratum_a, .ref pr_reach_a])), (pr_kind_a, .inl (cI, 240, .inl pr_kind)), (pr_width_a, .inl (cI, 240, .inl pr_width)), (pr_term_a, .inl (cI, 720, .inl pr_term))]) [0, 2, 3, 4, 5] [1] [1, 0, 2, 3, 4, 5] (K_Search_chooseNext l D cB cI cZ cJ t fa fr la t_value_a t_plan_a pr pr_kind_a pr_place_a pr_who_a pr_width_a pr_term_a pr_start_a pr_sort_a pr_arity_a pr_stratum_a pr_reach_a (0 : Int32) t_head t_end t_latestEntry t_counting t_solutions pr_size pr_rules pr_kind pr_width pr_term (0 : Int32) x0 F z1 hz1) mf_X6_chooseNext km_X6_101 hx hb hml hown hts hK hP hD hS hA hl.1 ⟨Nat.zero_le _, Nat.zero_le _⟩ dX6_makePlan_27 rfl rfl (Nat.le_of_ble_eq_true rfl) ⟨⟨rfl, rfl⟩, Nat.le_of_ble_eq_true rfl, Nat.le_of_ble_eq_true rfl⟩ rfl rfl (by decide) rfl rfl rfl rfl (fun H locs hP hD hS => ?_)
    have hP : va_P D vwCl [(t, .inr (6, [.ref fa, .ref fr, .ref la, .ref t_value_a, .ref t_plan_a, .ref pr, .int (0 : Int32), .int t_head, .int t_end, .int t_latestEntry, .int t_counting, .int t_solutions])), (t_plan_a, .inl (cI, 5, .inl t_plan)), (pr, .inr (4, [.ref pr_kind_a, .ref pr_place_a, .ref pr_who_a, .ref pr_width_a, .ref pr_term_a, .ref pr_start_a, .int pr_size, .int pr_rules, .ref pr_sort_a, .ref pr_arity_a, .ref pr_stratum_a, .ref pr_reach_a])), (pr_kind_a, .inl (cI, 240, .inl pr_kind)), (pr_width_a, .inl (cI, 240, .inl pr_width)), (pr_term_a, .inl (cI, 720, .inl pr_term))] H := hP
    have hD : va_D A [(t, .inr (6, [.ref fa, .ref fr, .ref la, .ref t_value_a, .ref t_plan_a, .ref pr, .int (0 : Int32), .int t_head, .int t_end, .int t_latestEntry, .int t_counting, .int t_solutions])), (t_plan_a, .inl (cI, 5, .inl t_plan)), (pr, .inr (4, [.ref pr_kind_a, .ref pr_place_a, .ref pr_who_a, .ref pr_width_a, .ref pr_term_a, .ref pr_start_a, .int pr_size, .int pr_rules, .ref pr_sort_a, .ref pr_arity_a, .ref pr_stratum_a, .ref pr_reach_a])), (pr_kind_a, .inl (cI, 240, .inl pr_kind)), (pr_width_a, .inl (cI, 240, .inl pr_width)), (pr_term_a, .inl (cI, 720, .inl pr_term))] := hD
    refine lv_istore (lv' := [(4, .int z1), (3, .int (0 : Int32)), (2, .int x0), (0, .ref t), (1, .int x0)]) hx hb dX6_makePlan_30 hl (by decide) rfl (fun ls hl => ?_)
    obtain ⟨z8, hz8, hm⟩ := bd_at hm
    refine L32  F z1 (0 : Int32) x0 t_plan (0 : Int32) z8 hz8 (fun H locs ls hP hD hS hl => ?_) H locs ls hP hD hS (lv_sub hl [0, 1, 2, 3] rfl)
    have ho := Option.some.inj hm
    exact k_vret hx hb hr hlocks hK hP hD hS dX6_makePlan_102 hQ rfl (by rw [← ho])
  · have hm := if_f hc hm
    refine lv_aload_n hx hb dX6_makePlan_17 rfl (lv_at hl 2 rfl) ?_
    refine va_get (D := D) (ci := 6) (v := .int t_latestEntry) (C := RX6) (T := TX6) (N := 12) hx hb hts in_X6 hown hK hP 0 rfl rfl 9 (by decide) (hts _ kf_X6_28) (fun _ h9 => h9) rfl dX6_makePlan_18 ?_
    refine lv_goto (tgt := 30) hx hb dX6_makePlan_21 (by decide) ?_
    refine lv_istore (lv' := [(4, .int t_latestEntry), (3, .int (0 : Int32)), (2, .int x0), (0, .ref t), (1, .int x0)]) hx hb dX6_makePlan_30 hl (by decide) rfl (fun ls hl => ?_)
    obtain ⟨z9, hz9, hm⟩ := bd_at hm
    refine L32  F t_latestEntry (0 : Int32) x0 t_plan (0 : Int32) z9 hz9 (fun H locs ls hP hD hS hl => ?_) H locs ls hP hD hS (lv_sub hl [0, 1, 2, 3] rfl)
    have ho := Option.some.inj hm
    exact k_vret hx hb hr hlocks hK hP hD hS dX6_makePlan_102 hQ rfl (by rw [← ho])
noncomputable def M_Search_compare (t_value : Nat → Int32) (pr_kind : Nat → Int32) (pr_term : Nat → Int32) (x0 : Int32) : Option ((Int32)) := gd_ (x0 * (3 : Int32)) 720 <| lt_ ((pr_term (x0 * (3 : Int32)).toNatClampNeg)) fun v1 => gd_ v1 38 <| lt_ ((t_value v1.toNatClampNeg)) fun v2 => gd_ ((x0 * (3 : Int32)) + (1 : Int32)) 720 <| lt_ ((pr_term ((x0 * (3 : Int32)) + (1 : Int32)).toNatClampNeg)) fun v3 => gd_ v3 38 <| lt_ ((t_value v3.toNatClampNeg)) fun v4 => gd_ x0 240 <| if (pr_kind x0.toNatClampNeg) = (3 : Int32) then (if v2 = v4 then (some (1 : Int32)) else (some (0 : Int32))) else if (pr_kind x0.toNatClampNeg) = (4 : Int32) then (if v2 = v4 then (some (0 : Int32)) else (some (1 : Int32))) else (if v4 ≤ v2 then (some (0 : Int32)) else (some (1 : Int32)))
set_option maxRecDepth 100000 in
set_option maxHeartbeats 4000000 in
theorem K_Search_compare (l : Launch) (D : va_G) (cB cI cZ cJ : ClassId) (t : Nat) (fa : Nat) (fr : Nat) (la : Nat) (t_value_a : Nat) (t_plan_a : Nat) (pr : Nat) (pr_kind_a : Nat) (pr_place_a : Nat) (pr_who_a : Nat) (pr_width_a : Nat) (pr_term_a : Nat) (pr_start_a : Nat) (pr_sort_a : Nat) (pr_arity_a : Nat) (pr_stratum_a : Nat) (pr_reach_a : Nat) (t_planned : Int32) (t_head : Int32) (t_end : Int32) (t_latestEntry : Int32) (t_counting : Int32) (t_solutions : Int32) (t_value : Nat → Int32) (pr_size : Int32) (pr_rules : Int32) (pr_kind : Nat → Int32) (pr_term : Nat → Int32) (x0 : Int32) (out : (Int32)) (hm : M_Search_compare t_value pr_kind pr_term x0 = some out) : KC l yX6_compare cX6_compare 4 (some .boolean) { frames := 0, cells := 0, slots := 0, locals := 0 } D (kTy cB cI cZ cJ) [.ref t, .int x0] [(t, .inr (6, [.ref fa, .ref fr, .ref la, .ref t_value_a, .ref t_plan_a, .ref pr, .int t_planned, .int t_head, .int t_end, .int t_latestEntry, .int t_counting, .int t_solutions])), (t_value_a, .inl (cI, 38, .inl t_value)), (pr, .inr (4, [.ref pr_kind_a, .ref pr_place_a, .ref pr_who_a, .ref pr_width_a, .ref pr_term_a, .ref pr_start_a, .int pr_size, .int pr_rules, .ref pr_sort_a, .ref pr_arity_a, .ref pr_stratum_a, .ref pr_reach_a])), (pr_kind_a, .inl (cI, 240, .inl pr_kind)), (pr_term_a, .inl (cI, 720, .inl pr_term))] (some (.int out)) [(t, .inr (6, [.ref fa, .ref fr, .ref la, .ref t_value_a, .ref t_plan_a, .ref pr, .int t_planned, .int t_head, .int t_end, .int t_latestEntry, .int t_counting, .int t_solutions])), (t_value_a, .inl (cI, 38, .inl t_value)), (pr, .inr (4, [.ref pr_kind_a, .ref pr_place_a, .ref pr_who_a, .ref pr_width_a, .ref pr_term_a, .ref pr_start_a, .int pr_size, .int pr_rules, .ref pr_sort_a, .ref pr_arity_a, .ref pr_stratum_a, .ref pr_reach_a])), (pr_kind_a, .inl (cI, 240, .inl pr_kind)), (pr_term_a, .inl (cI, 720, .inl pr_term))] := by
  refine KC.of (by decide +kernel) (Nat.le_of_ble_eq_true rfl) ?_
  intro p e s m below meth c A ls args Q hQ CX hA hK hP hD hl
  obtain ⟨hx, hb, hr, hml, hown, hts, hlocks⟩ := CX
  have hown : s.vm.findClass RX6 = some m.cls := hown
  have hS : va_S A s.heap s.heap [] := va_S.rf
  have hl : lv_has ls 4 [(0, .ref t), (1, .int x0)] := hl
  unfold M_Search_compare at hm
  obtain ⟨H, eH⟩ : ∃ H, H = s.heap := ⟨_, rfl⟩
  obtain ⟨locs, el⟩ : ∃ x : List Loc, x = [] := ⟨_, rfl⟩
  have hP : va_P D vwCl [(t, .inr (6, [.ref fa, .ref fr, .ref la, .ref t_value_a, .ref t_plan_a, .ref pr, .int t_planned, .int t_head, .int t_end, .int t_latestEntry, .int t_counting, .int t_solutions])), (t_value_a, .inl (cI, 38, .inl t_value)), (pr, .inr (4, [.ref pr_kind_a, .ref pr_place_a, .ref pr_who_a, .ref pr_width_a, .ref pr_term_a, .ref pr_start_a, .int pr_size, .int pr_rules, .ref pr_sort_a, .ref pr_arity_a, .ref pr_stratum_a, .ref pr_reach_a])), (pr_kind_a, .inl (cI, 240, .inl pr_kind)), (pr_term_a, .inl (cI, 720, .inl pr_term))] H := eH ▸ hP
  have hS : va_S A s.heap H locs := by rw [eH, el]; exact hS
  suffices hW : W p l e { frames := 0, cells := 0, slots := 0, locals := 0 } s m args below meth c H locs 0 0 Q (F0 m 0 ls []) by rw [eH, el] at hW; exact hW
  clear eH el
  refine lv_aload_n hx hb dX6_compare_0 rfl (lv_at hl 0 rfl) ?_
  refine va_get (D := D) (ci := 6) (v := .ref t_value_a) (C := RX6) (T := TX6) (N := 12) hx hb hts in_X6 hown hK hP 0 rfl rfl 3 (by decide) (hts _ kf_X6_9) (fun _ h9 => h9) rfl dX6_compare_1 ?_
  refine lv_aload_n hx hb dX6_compare_4 rfl (lv_at hl 0 rfl) ?_
  refine va_get (D := D) (ci := 6) (v := .ref pr) (C := RX6) (T := TX6) (N := 12) hx hb hts in_X6 hown hK hP 0 rfl rfl 5 (by decide) (hts _ kf_X6_38) (fun _ h9 => h9) rfl dX6_compare_5 ?_
  refine va_get (D := D) (ci := 4) (v := .ref pr_term_a) (C := RX4) (T := TX4) (N := 12) hx hb hts in_X4 hown hK hP 2 rfl rfl 4 (by decide) (hts _ kf_X6_98) (fun _ h9 => h9) rfl dX6_compare_8 ?_
  refine lv_iload_n hx hb dX6_compare_11 rfl (lv_at hl 1 rfl) ?_
  refine lv_iconst (v := (3 : Int32)) hx hb dX6_compare_12 (by decide) ?_
  refine lv_imul hx hb dX6_compare_13 ?_
  refine va_iald hx hb hK hP 4 1 rfl rfl (gd_in hm) dX6_compare_14 ?_
  have hm := gd_go hm
  refine lv_topi (fun v1 ev1 => ?_)
  have hm := lt_at ev1 hm
  refine va_iald hx hb hK hP 1 1 rfl rfl (gd_in hm) dX6_compare_15 ?_
  have hm := gd_go hm
  refine lv_topi (fun v2 ev2 => ?_)
  have hm := lt_at ev2 hm
  refine lv_istore_n (lv' := [(2, .int v2), (0, .ref t), (1, .int x0)]) hx hb dX6_compare_16 rfl hl (by decide) rfl (fun ls hl => ?_)
  refine lv_aload_n hx hb dX6_compare_17 rfl (lv_at hl 1 rfl) ?_
  refine va_get (D := D) (ci := 6) (v := .ref t_value_a) (C := RX6) (T := TX6) (N := 12) hx hb hts in_X6 hown hK hP 0 rfl rfl 3 (by decide) (hts _ kf_X6_9) (fun _ h9 => h9) rfl dX6_compare_18 ?_
  refine lv_aload_n hx hb dX6_compare_21 rfl (lv_at hl 1 rfl) ?_
  refine va_get (D := D) (ci := 6) (v := .ref pr) (C := RX6) (T := TX6) (N := 12) hx hb hts in_X6 hown hK hP 0 rfl rfl 5 (by decide) (hts _ kf_X6_38) (fun _ h9 => h9) rfl dX6_compare_22 ?_
  refine va_get (D := D) (ci := 4) (v := .ref pr_term_a) (C := RX4) (T := TX4) (N := 12) hx hb hts in_X4 hown hK hP 2 rfl rfl 4 (by decide) (hts _ kf_X6_98) (fun _ h9 => h9) rfl dX6_compare_25 ?_
  refine lv_iload_n hx hb dX6_compare_28 rfl (lv_at hl 2 rfl) ?_
  refine lv_iconst (v := (3 : Int32)) hx hb dX6_compare_29 (by decide) ?_
  refine lv_imul hx hb dX6_compare_30 ?_
  refine lv_iconst (v := (1 : Int32)) hx hb dX6_compare_31 (by decide) ?_
  refine lv_iadd hx hb dX6_compare_32 ?_
  refine va_iald hx hb hK hP 4 1 rfl rfl (gd_in hm) dX6_compare_33 ?_
  have hm := gd_go hm
  refine lv_topi (fun v3 ev3 => ?_)
  have hm := lt_at ev3 hm
  refine va_iald hx hb hK hP 1 1 rfl rfl (gd_in hm) dX6_compare_34 ?_
  have hm := gd_go hm
  refine lv_topi (fun v4 ev4 => ?_)
  have hm := lt_at ev4 hm
  refine lv_istore_n (lv' := [(3, .int v4), (2, .int v2), (0, .ref t), (1, .int x0)]) hx hb dX6_compare_35 rfl hl (by decide) rfl (fun ls hl => ?_)
  refine lv_aload_n hx hb dX6_compare_36 rfl (lv_at hl 2 rfl) ?_
  refine va_get (D := D) (ci := 6) (v := .ref pr) (C := RX6) (T := TX6) (N := 12) hx hb hts in_X6 hown hK hP 0 rfl rfl 5 (by decide) (hts _ kf_X6_38) (fun _ h9 => h9) rfl dX6_compare_37 ?_
  refine va_get (D := D) (ci := 4) (v := .ref pr_kind_a) (C := RX4) (T := TX4) (N := 12) hx hb hts in_X4 hown hK hP 2 rfl rfl 0 (by decide) (hts _ kf_X6_80) (fun _ h9 => h9) rfl dX6_compare_40 ?_
  refine lv_iload_n hx hb dX6_compare_43 rfl (lv_at hl 3 rfl) ?_
  refine va_iald hx hb hK hP 3 1 rfl rfl (gd_in hm) dX6_compare_44 ?_
  have hm := gd_go hm
  by_cases hs0 : (pr_kind x0.toNatClampNeg) = (3 : Int32)
  · have hm := if_t hs0 hm
    refine k_lkIn (tgt := 72) (off := 27) hx hb (3 : Int32) hs0 dX6_compare_45 (by decide) (by decide) (by decide) ?_
    refine lv_iload_n hx hb dX6_compare_72 rfl (lv_at hl 1 rfl) ?_
    refine lv_iload_n hx hb dX6_compare_73 rfl (lv_at hl 0 rfl) ?_
    refine lv_icmp_ne (tgt := 81) hx hb dX6_compare_74 (by decide) (fun hc => ?_) (fun hc => ?_)
    · have hm := if_f hc hm
      refine lv_iconst (v := (0 : Int32)) hx hb dX6_compare_81 (by decide) ?_
      have ho := Option.some.inj hm
      exact k_zret (by decide +kernel) hx hb hr hlocks hK hP hD hS dX6_compare_82 hQ (by rw [← ho]) rfl
    · have hm := if_t hc hm
      refine lv_iconst (v := (1 : Int32)) hx hb dX6_compare_77 (by decide) ?_
      refine lv_goto (tgt := 82) hx hb dX6_compare_78 (by decide) ?_
      have ho := Option.some.inj hm
      exact k_zret (by decide +kernel) hx hb hr hlocks hK hP hD hS dX6_compare_82 hQ (by rw [← ho]) rfl
  · have hm := if_f hs0 hm
    by_cases hs1 : (pr_kind x0.toNatClampNeg) = (4 : Int32)
    · have hm := if_t hs1 hm
      refine k_lkIn (tgt := 83) (off := 38) hx hb (4 : Int32) hs1 dX6_compare_45 (by decide) (by decide) (by decide) ?_
      refine lv_iload_n hx hb dX6_compare_83 rfl (lv_at hl 1 rfl) ?_
      refine lv_iload_n hx hb dX6_compare_84 rfl (lv_at hl 0 rfl) ?_
      refine lv_icmp_eq (tgt := 92) hx hb dX6_compare_85 (by decide) (fun hc => ?_) (fun hc => ?_)
      · have hm := if_t hc hm
        refine lv_iconst (v := (0 : Int32)) hx hb dX6_compare_92 (by decide) ?_
        have ho := Option.some.inj hm
        exact k_zret (by decide +kernel) hx hb hr hlocks hK hP hD hS dX6_compare_93 hQ (by rw [← ho]) rfl
      · have hm := if_f hc hm
        refine lv_iconst (v := (1 : Int32)) hx hb dX6_compare_88 (by decide) ?_
        refine lv_goto (tgt := 93) hx hb dX6_compare_89 (by decide) ?_
        have ho := Option.some.inj hm
        exact k_zret (by decide +kernel) hx hb hr hlocks hK hP hD hS dX6_compare_93 hQ (by rw [← ho]) rfl
    · have hm := if_f hs1 hm
      refine lv_lookup (tgt := 94) (off := 49) hx hb dX6_compare_45 (by decide) (by simp [Op.lookupswitch.offset, k_toI 3 (3 : Int32) (by decide) hs0, k_toI 4 (4 : Int32) (by decide) hs1]) (by decide) ?_
      refine lv_iload_n hx hb dX6_compare_94 rfl (lv_at hl 1 rfl) ?_
      refine lv_iload_n hx hb dX6_compare_95 rfl (lv_at hl 0 rfl) ?_
      refine lv_icmp_ge (tgt := 103) hx hb dX6_compare_96 (by decide) (fun hc => ?_) (fun hc => ?_)
      · have hm := if_t hc hm
        refine lv_iconst (v := (0 : Int32)) hx hb dX6_compare_103 (by decide) ?_
        have ho := Option.some.inj hm
        exact k_zret (by decide +kernel) hx hb hr hlocks hK hP hD hS dX6_compare_104 hQ (by rw [← ho]) rfl
      · have hm := if_f hc hm
        refine lv_iconst (v := (1 : Int32)) hx hb dX6_compare_99 (by decide) ?_
        refine lv_goto (tgt := 104) hx hb dX6_compare_100 (by decide) ?_
        have ho := Option.some.inj hm
        exact k_zret (by decide +kernel) hx hb hr hlocks hK hP hD hS dX6_compare_104 hQ (by rw [← ho]) rfl
noncomputable def M_Search_numberOf_L4 (F : Nat) (t_value : Nat → Int32) (pr_width : Nat → Int32) (pr_term : Nat → Int32) (w1 : Int32) : Nat → Int32 → Int32 → Option ((Int32))
  | 0, _, _ => none
  | n + 1, y3, y2 => gd_ w1 240 <| if (pr_width w1.toNatClampNeg) ≤ y3 then (some y2) else (gd_ ((w1 * (3 : Int32)) + y3) 720 <| lt_ ((pr_term ((w1 * (3 : Int32)) + y3).toNatClampNeg)) fun v1 => gd_ v1 38 <| lt_ (((y2 * (12 : Int32)) + (t_value v1.toNatClampNeg))) fun v2 => lt_ (y3 + (1 : Int32)) fun v3 => M_Search_numberOf_L4 F t_value pr_width pr_term w1 n v3 v2)
noncomputable def M_Search_numberOf (F : Nat) (t_value : Nat → Int32) (pr_width : Nat → Int32) (pr_term : Nat → Int32) (x0 : Int32) : Option ((Int32)) := bd_ (M_Search_numberOf_L4 F t_value pr_width pr_term x0 F (0 : Int32) (0 : Int32)) fun z4 => some z4
set_option maxRecDepth 100000 in
set_option maxHeartbeats 4000000 in
theorem K_Search_numberOf (l : Launch) (D : va_G) (cB cI cZ cJ : ClassId) (t : Nat) (fa : Nat) (fr : Nat) (la : Nat) (t_value_a : Nat) (t_plan_a : Nat) (pr : Nat) (pr_kind_a : Nat) (pr_place_a : Nat) (pr_who_a : Nat) (pr_width_a : Nat) (pr_term_a : Nat) (pr_start_a : Nat) (pr_sort_a : Nat) (pr_arity_a : Nat) (pr_stratum_a : Nat) (pr_reach_a : Nat) (t_planned : Int32) (t_head : Int32) (t_end : Int32) (t_latestEntry : Int32) (t_counting : Int32) (t_solutions : Int32) (t_value : Nat → Int32) (pr_size : Int32) (pr_rules : Int32) (pr_width : Nat → Int32) (pr_term : Nat → Int32) (x0 : Int32) (F : Nat) (out : (Int32)) (hm : M_Search_numberOf F t_value pr_width pr_term x0 = some out) : KC l yX6_numberOf cX6_numberOf 4 (some .int) { frames := 0, cells := 0, slots := 0, locals := 0 } D (kTy cB cI cZ cJ) [.ref t, .int x0] [(t, .inr (6, [.ref fa, .ref fr, .ref la, .ref t_value_a, .ref t_plan_a, .ref pr, .int t_planned, .int t_head, .int t_end, .int t_latestEntry, .int t_counting, .int t_solutions])), (t_value_a, .inl (cI, 38, .inl t_value)), (pr, .inr (4, [.ref pr_kind_a, .ref pr_place_a, .ref pr_who_a, .ref pr_width_a, .ref pr_term_a, .ref pr_start_a, .int pr_size, .int pr_rules, .ref pr_sort_a, .ref pr_arity_a, .ref pr_stratum_a, .ref pr_reach_a])), (pr_width_a, .inl (cI, 240, .inl pr_width)), (pr_term_a, .inl (cI, 720, .inl pr_term))] (some (.int out)) [(t, .inr (6, [.ref fa, .ref fr, .ref la, .ref t_value_a, .ref t_plan_a, .ref pr, .int t_planned, .int t_head, .int t_end, .int t_latestEntry, .int t_counting, .int t_solutions])), (t_value_a, .inl (cI, 38, .inl t_value)), (pr, .inr (4, [.ref pr_kind_a, .ref pr_place_a, .ref pr_who_a, .ref pr_width_a, .ref pr_term_a, .ref pr_start_a, .int pr_size, .int pr_rules, .ref pr_sort_a, .ref pr_arity_a, .ref pr_stratum_a, .ref pr_reach_a])), (pr_width_a, .inl (cI, 240, .inl pr_width)), (pr_term_a, .inl (cI, 720, .inl pr_term))] := by
  refine KC.of (by decide +kernel) (Nat.le_of_ble_eq_true rfl) ?_
  intro p e s m below meth c A ls args Q hQ CX hA hK hP hD hl
  obtain ⟨hx, hb, hr, hml, hown, hts, hlocks⟩ := CX
  have hown : s.vm.findClass RX6 = some m.cls := hown
  have hS : va_S A s.heap s.heap [] := va_S.rf
  have hl : lv_has ls 4 [(0, .ref t), (1, .int x0)] := hl
  have L4 : ∀ (w1 : Int32) (n : Nat) (y3 : Int32) (y2 : Int32) (z : ((Int32))), M_Search_numberOf_L4 F t_value pr_width pr_term w1 n y3 y2 = some z →
      (∀ (H : Heap) (locs : List Loc) (ls : Array Slot), va_P D vwCl [(t, .inr (6, [.ref fa, .ref fr, .ref la, .ref t_value_a, .ref t_plan_a, .ref pr, .int t_planned, .int t_head, .int t_end, .int t_latestEntry, .int t_counting, .int t_solutions])), (t_value_a, .inl (cI, 38, .inl t_value)), (pr, .inr (4, [.ref pr_kind_a, .ref pr_place_a, .ref pr_who_a, .ref pr_width_a, .ref pr_term_a, .ref pr_start_a, .int pr_size, .int pr_rules, .ref pr_sort_a, .ref pr_arity_a, .ref pr_stratum_a, .ref pr_reach_a])), (pr_width_a, .inl (cI, 240, .inl pr_width)), (pr_term_a, .inl (cI, 720, .inl pr_term))] H → va_D A [(t, .inr (6, [.ref fa, .ref fr, .ref la, .ref t_value_a, .ref t_plan_a, .ref pr, .int t_planned, .int t_head, .int t_end, .int t_latestEntry, .int t_counting, .int t_solutions])), (t_value_a, .inl (cI, 38, .inl t_value)), (pr, .inr (4, [.ref pr_kind_a, .ref pr_place_a, .ref pr_who_a, .ref pr_width_a, .ref pr_term_a, .ref pr_start_a, .int pr_size, .int pr_rules, .ref pr_sort_a, .ref pr_arity_a, .ref pr_stratum_a, .ref pr_reach_a])), (pr_width_a, .inl (cI, 240, .inl pr_width)), (pr_term_a, .inl (cI, 720, .inl pr_term))] → va_S A s.heap H locs → lv_has ls 4 [(2, .int z)] → W p l e { frames := 0, cells := 0, slots := 0, locals := 0 } s m args below meth c H locs 0 0 Q (F0 m 47 ls [])) →
      ∀ (H : Heap) (locs : List Loc) (ls : Array Slot), va_P D vwCl [(t, .inr (6, [.ref fa, .ref fr, .ref la, .ref t_value_a, .ref t_plan_a, .ref pr, .int t_planned, .int t_head, .int t_end, .int t_latestEntry, .int t_counting, .int t_solutions])), (t_value_a, .inl (cI, 38, .inl t_value)), (pr, .inr (4, [.ref pr_kind_a, .ref pr_place_a, .ref pr_who_a, .ref pr_width_a, .ref pr_term_a, .ref pr_start_a, .int pr_size, .int pr_rules, .ref pr_sort_a, .ref pr_arity_a, .ref pr_stratum_a, .ref pr_reach_a])), (pr_width_a, .inl (cI, 240, .inl pr_width)), (pr_term_a, .inl (cI, 720, .inl pr_term))] H → va_D A [(t, .inr (6, [.ref fa, .ref fr, .ref la, .ref t_value_a, .ref t_plan_a, .ref pr, .int t_planned, .int t_head, .int t_end, .int t_latestEntry, .int t_counting, .int t_solutions])), (t_value_a, .inl (cI, 38, .inl t_value)), (pr, .inr (4, [.ref pr_kind_a, .ref pr_place_a, .ref pr_who_a, .ref pr_width_a, .ref pr_term_a, .ref pr_start_a, .int pr_size, .int pr_rules, .ref pr_sort_a, .ref pr_arity_a, .ref pr_stratum_a, .ref pr_reach_a])), (pr_width_a, .inl (cI, 240, .inl pr_width)), (pr_term_a, .inl (cI, 720, .inl pr_term))] → va_S A s.heap H locs → lv_has ls 4 [(3, .int y3), (2, .int y2), (0, .ref t), (1, .int w1)] → W p l e { frames := 0, cells := 0, slots := 0, locals := 0 } s m args below meth c H locs 0 0 Q (F0 m 4 ls []) := by
    intro w1 n
    induction n with
    | zero => intro y3 y2 z hm; unfold M_Search_numberOf_L4 at hm; cases hm
    | succ n ih =>
      intro y3 y2 z hm hE H locs ls hP hD hS hl
      unfold M_Search_numberOf_L4 at hm
      refine lv_iload_n hx hb dX6_numberOf_4 rfl (lv_at hl 0 rfl) ?_
      refine lv_aload_n hx hb dX6_numberOf_5 rfl (lv_at hl 2 rfl) ?_
      refine va_get (D := D) (ci := 6) (v := .ref pr) (C := RX6) (T := TX6) (N := 12) hx hb hts in_X6 hown hK hP 0 rfl rfl 5 (by decide) (hts _ kf_X6_38) (fun _ h9 => h9) rfl dX6_numberOf_6 ?_
      refine va_get (D := D) (ci := 4) (v := .ref pr_width_a) (C := RX4) (T := TX4) (N := 12) hx hb hts in_X4 hown hK hP 2 rfl rfl 3 (by decide) (hts _ kf_X6_95) (fun _ h9 => h9) rfl dX6_numberOf_9 ?_
      refine lv_iload_n hx hb dX6_numberOf_12 rfl (lv_at hl 3 rfl) ?_
      refine va_iald hx hb hK hP 3 1 rfl rfl (gd_in hm) dX6_numberOf_13 ?_
      have hm := gd_go hm
      refine lv_icmp_ge (tgt := 47) hx hb dX6_numberOf_14 (by decide) (fun hc => ?_) (fun hc => ?_)
      · have hm := if_t hc hm
        cases hm
        exact hE H locs ls hP hD hS (lv_sub hl [1] rfl)
      · have hm := if_f hc hm
        refine lv_iload_n hx hb dX6_numberOf_17 rfl (lv_at hl 1 rfl) ?_
        refine lv_bipush (v := (12 : Int32)) hx hb dX6_numberOf_18 (by decide) ?_
        refine lv_imul hx hb dX6_numberOf_20 ?_
        refine lv_aload_n hx hb dX6_numberOf_21 rfl (lv_at hl 2 rfl) ?_
        refine va_get (D := D) (ci := 6) (v := .ref t_value_a) (C := RX6) (T := TX6) (N := 12) hx hb hts in_X6 hown hK hP 0 rfl rfl 3 (by decide) (hts _ kf_X6_9) (fun _ h9 => h9) rfl dX6_numberOf_22 ?_
        refine lv_aload_n hx hb dX6_numberOf_25 rfl (lv_at hl 2 rfl) ?_
        refine va_get (D := D) (ci := 6) (v := .ref pr) (C := RX6) (T := TX6) (N := 12) hx hb hts in_X6 hown hK hP 0 rfl rfl 5 (by decide) (hts _ kf_X6_38) (fun _ h9 => h9) rfl dX6_numberOf_26 ?_
        refine va_get (D := D) (ci := 4) (v := .ref pr_term_a) (C := RX4) (T := TX4) (N := 12) hx hb hts in_X4 hown hK hP 2 rfl rfl 4 (by decide) (hts _ kf_X6_98) (fun _ h9 => h9) rfl dX6_numberOf_29 ?_
        refine lv_iload_n hx hb dX6_numberOf_32 rfl (lv_at hl 3 rfl) ?_
        refine lv_iconst (v := (3 : Int32)) hx hb dX6_numberOf_33 (by decide) ?_
        refine lv_imul hx hb dX6_numberOf_34 ?_
        refine lv_iload_n hx hb dX6_numberOf_35 rfl (lv_at hl 0 rfl) ?_
        refine lv_iadd hx hb dX6_numberOf_36 ?_
        refine va_iald hx hb hK hP 4 1 rfl rfl (gd_in hm) dX6_numberOf_37 ?_
        have hm := gd_go hm
        refine lv_topi (fun v1 ev1 => ?_)
        have hm := lt_at ev1 hm
        refine va_iald hx hb hK hP 1 1 rfl rfl (gd_in hm) dX6_numberOf_38 ?_
        have hm := gd_go hm
        refine lv_iadd hx hb dX6_numberOf_39 ?_
        refine lv_topi (fun v2 ev2 => ?_)
        have hm := lt_at ev2 hm
        refine lv_istore_n (lv' := [(2, .int v2), (3, .int y3), (0, .ref t), (1, .int w1)]) hx hb dX6_numberOf_40 rfl hl (by decide) rfl (fun ls hl => ?_)
        obtain ⟨v3, ev3⟩ : ∃ y : Int32, y = y3 + (1 : Int32) := ⟨_, rfl⟩
        have hm := lt_at ev3 hm
        refine lv_iinc (v := v3) (lv' := [(3, .int v3), (2, .int v2), (0, .ref t), (1, .int w1)]) hx hb dX6_numberOf_41 hl (k := 1) rfl (by rw [ev3]; rfl) (by decide) rfl (fun ls hl => ?_)
        refine lv_goto (tgt := 4) hx hb dX6_numberOf_44 (by decide) ?_
        exact ih v3 v2 z hm hE H locs ls hP hD hS (lv_sub hl [0, 1, 2, 3] rfl)
  unfold M_Search_numberOf at hm
  obtain ⟨H, eH⟩ : ∃ H, H = s.heap := ⟨_, rfl⟩
  obtain ⟨locs, el⟩ : ∃ x : List Loc, x = [] := ⟨_, rfl⟩
  have hP : va_P D vwCl [(t, .inr (6, [.ref fa, .ref fr, .ref la, .ref t_value_a, .ref t_plan_a, .ref pr, .int t_planned, .int t_head, .int t_end, .int t_latestEntry, .int t_counting, .int t_solutions])), (t_value_a, .inl (cI, 38, .inl t_value)), (pr, .inr (4, [.ref pr_kind_a, .ref pr_place_a, .ref pr_who_a, .ref pr_width_a, .ref pr_term_a, .ref pr_start_a, .int pr_size, .int pr_rules, .ref pr_sort_a, .ref pr_arity_a, .ref pr_stratum_a, .ref pr_reach_a])), (pr_width_a, .inl (cI, 240, .inl pr_width)), (pr_term_a, .inl (cI, 720, .inl pr_term))] H := eH ▸ hP
  have hS : va_S A s.heap H locs := by rw [eH, el]; exact hS
  suffices hW : W p l e { frames := 0, cells := 0, slots := 0, locals := 0 } s m args below meth c H locs 0 0 Q (F0 m 0 ls []) by rw [eH, el] at hW; exact hW
  clear eH el
  refine lv_iconst (v := (0 : Int32)) hx hb dX6_numberOf_0 (by decide) ?_
  refine lv_istore_n (lv' := [(2, .int (0 : Int32)), (0, .ref t), (1, .int x0)]) hx hb dX6_numberOf_1 rfl hl (by decide) rfl (fun ls hl => ?_)
  refine lv_iconst (v := (0 : Int32)) hx hb dX6_numberOf_2 (by decide) ?_
  refine lv_istore_n (lv' := [(3, .int (0 : Int32)), (2, .int (0 : Int32)), (0, .ref t), (1, .int x0)]) hx hb dX6_numberOf_3 rfl hl (by decide) rfl (fun ls hl => ?_)
  obtain ⟨z4, hz4, hm⟩ := bd_at hm
  refine L4 x0 F (0 : Int32) (0 : Int32) z4 hz4 (fun H locs ls hP hD hS hl => ?_) H locs ls hP hD hS (lv_sub hl [0, 1, 2, 3] rfl)
  refine lv_iload_n hx hb dX6_numberOf_47 rfl (lv_at hl 0 rfl) ?_
  have ho := Option.some.inj hm
  exact k_iret hx hb hr hlocks hK hP hD hS dX6_numberOf_48 hQ (by rw [← ho]) rfl
noncomputable def M_Search_isSo (F : Nat) (t_value : Nat → Int32) (t_latestEntry : Int32) (fa_row : Nat → Int32) (la_row : Nat → Int32) (pr_kind : Nat → Int32) (pr_who : Nat → Int32) (pr_width : Nat → Int32) (pr_term : Nat → Int32) (x0 : Int32) : Option ((Int32)) := gd_ x0 240 <| if (pr_kind x0.toNatClampNeg) = (1 : Int32) then (if x0 = t_latestEntry then (gd_ x0 240 <| bd_ (M_Search_numberOf F t_value pr_width pr_term x0) fun z1 => bd_ (M_FactSet_has la_row (pr_who x0.toNatClampNeg) z1) fun z2 => gz_ z2 <| some z2) else (gd_ x0 240 <| bd_ (M_Search_numberOf F t_value pr_width pr_term x0) fun z3 => bd_ (M_FactSet_has fa_row (pr_who x0.toNatClampNeg) z3) fun z4 => gz_ z4 <| some z4)) else if (pr_kind x0.toNatClampNeg) = (2 : Int32) then (gd_ x0 240 <| bd_ (M_Search_numberOf F t_value pr_width pr_term x0) fun z5 => bd_ (M_FactSet_has fa_row (pr_who x0.toNatClampNeg) z5) fun z6 => if z6 = 0 then (some (1 : Int32)) else (some (0 : Int32))) else (bd_ (M_Search_compare t_value pr_kind pr_term x0) fun z7 => gz_ z7 <| some z7)
set_option maxRecDepth 100000 in
set_option maxHeartbeats 4000000 in
theorem K_Search_isSo (l : Launch) (D : va_G) (cB cI cZ cJ : ClassId) (t : Nat) (fa : Nat) (fr : Nat) (la : Nat) (t_value_a : Nat) (t_plan_a : Nat) (pr : Nat) (fa_row_a : Nat) (fa_count_a : Nat) (la_row_a : Nat) (la_count_a : Nat) (pr_kind_a : Nat) (pr_place_a : Nat) (pr_who_a : Nat) (pr_width_a : Nat) (pr_term_a : Nat) (pr_start_a : Nat) (pr_sort_a : Nat) (pr_arity_a : Nat) (pr_stratum_a : Nat) (pr_reach_a : Nat) (t_planned : Int32) (t_head : Int32) (t_end : Int32) (t_latestEntry : Int32) (t_counting : Int32) (t_solutions : Int32) (t_value : Nat → Int32) (fa_row : Nat → Int32) (la_row : Nat → Int32) (pr_size : Int32) (pr_rules : Int32) (pr_kind : Nat → Int32) (pr_who : Nat → Int32) (pr_width : Nat → Int32) (pr_term : Nat → Int32) (x0 : Int32) (F : Nat) (out : (Int32)) (hm : M_Search_isSo F t_value t_latestEntry fa_row la_row pr_kind pr_who pr_width pr_term x0 = some out) : KC l yX6_isSo cX6_isSo 2 (some .boolean) { frames := 1, cells := 0, slots := 0, locals := 23 } D (kTy cB cI cZ cJ) [.ref t, .int x0] [(t, .inr (6, [.ref fa, .ref fr, .ref la, .ref t_value_a, .ref t_plan_a, .ref pr, .int t_planned, .int t_head, .int t_end, .int t_latestEntry, .int t_counting, .int t_solutions])), (t_value_a, .inl (cI, 38, .inl t_value)), (fa, .inr (1, [.ref fa_row_a, .ref fa_count_a])), (fa_row_a, .inl (cI, 1440, .inl fa_row)), (la, .inr (1, [.ref la_row_a, .ref la_count_a])), (la_row_a, .inl (cI, 1440, .inl la_row)), (pr, .inr (4, [.ref pr_kind_a, .ref pr_place_a, .ref pr_who_a, .ref pr_width_a, .ref pr_term_a, .ref pr_start_a, .int pr_size, .int pr_rules, .ref pr_sort_a, .ref pr_arity_a, .ref pr_stratum_a, .ref pr_reach_a])), (pr_kind_a, .inl (cI, 240, .inl pr_kind)), (pr_who_a, .inl (cI, 240, .inl pr_who)), (pr_width_a, .inl (cI, 240, .inl pr_width)), (pr_term_a, .inl (cI, 720, .inl pr_term))] (some (.int out)) [(t, .inr (6, [.ref fa, .ref fr, .ref la, .ref t_value_a, .ref t_plan_a, .ref pr, .int t_planned, .int t_head, .int t_end, .int t_latestEntry, .int t_counting, .int t_solutions])), (t_value_a, .inl (cI, 38, .inl t_value)), (fa, .inr (1, [.ref fa_row_a, .ref fa_count_a])), (fa_row_a, .inl (cI, 1440, .inl fa_row)), (la, .inr (1, [.ref la_row_a, .ref la_count_a])), (la_row_a, .inl (cI, 1440, .inl la_row)), (pr, .inr (4, [.ref pr_kind_a, .ref pr_place_a, .ref pr_who_a, .ref pr_width_a, .ref pr_term_a, .ref pr_start_a, .int pr_size, .int pr_rules, .ref pr_sort_a, .ref pr_arity_a, .ref pr_stratum_a, .ref pr_reach_a])), (pr_kind_a, .inl (cI, 240, .inl pr_kind)), (pr_who_a, .inl (cI, 240, .inl pr_who)), (pr_width_a, .inl (cI, 240, .inl pr_width)), (pr_term_a, .inl (cI, 720, .inl pr_term))] := by
  refine KC.of (by decide +kernel) (Nat.le_of_ble_eq_true rfl) ?_
  intro p e s m below meth c A ls args Q hQ CX hA hK hP hD hl
  obtain ⟨hx, hb, hr, hml, hown, hts, hlocks⟩ := CX
  have hown : s.vm.findClass RX6 = some m.cls := hown
  have hS : va_S A s.heap s.heap [] := va_S.rf
  have hl : lv_has ls 2 [(0, .ref t), (1, .int x0)] := hl
  unfold M_Search_isSo at hm
  obtain ⟨H, eH⟩ : ∃ H, H = s.heap := ⟨_, rfl⟩
  obtain ⟨locs, el⟩ : ∃ x : List Loc, x = [] := ⟨_, rfl⟩
  have hP : va_P D vwCl [(t, .inr (6, [.ref fa, .ref fr, .ref la, .ref t_value_a, .ref t_plan_a, .ref pr, .int t_planned, .int t_head, .int t_end, .int t_latestEntry, .int t_counting, .int t_solutions])), (t_value_a, .inl (cI, 38, .inl t_value)), (fa, .inr (1, [.ref fa_row_a, .ref fa_count_a])), (fa_row_a, .inl (cI, 1440, .inl fa_row)), (la, .inr (1, [.ref la_row_a, .ref la_count_a])), (la_row_a, .inl (cI, 1440, .inl la_row)), (pr, .inr (4, [.ref pr_kind_a, .ref pr_place_a, .ref pr_who_a, .ref pr_width_a, .ref pr_term_a, .ref pr_start_a, .int pr_size, .int pr_rules, .ref pr_sort_a, .ref pr_arity_a, .ref pr_stratum_a, .ref pr_reach_a])), (pr_kind_a, .inl (cI, 240, .inl pr_kind)), (pr_who_a, .inl (cI, 240, .inl pr_who)), (pr_width_a, .inl (cI, 240, .inl pr_width)), (pr_term_a, .inl (cI, 720, .inl pr_term))] H := eH ▸ hP
  have hS : va_S A s.heap H locs := by rw [eH, el]; exact hS
  suffices hW : W p l e { frames := 1, cells := 0, slots := 0, locals := 23 } s m args below meth c H locs 0 0 Q (F0 m 0 ls []) by rw [eH, el] at hW; exact hW
  clear eH el
  refine lv_aload_n hx hb dX6_isSo_0 rfl (lv_at hl 0 rfl) ?_
  refine va_get (D := D) (ci := 6) (v := .ref pr) (C := RX6) (T := TX6) (N := 12) hx hb hts in_X6 hown hK hP 0 rfl rfl 5 (by decide) (hts _ kf_X6_38) (fun _ h9 => h9) rfl dX6_isSo_1 ?_
  refine va_get (D := D) (ci := 4) (v := .ref pr_kind_a) (C := RX4) (T := TX4) (N := 12) hx hb hts in_X4 hown hK hP 6 rfl rfl 0 (by decide) (hts _ kf_X6_80) (fun _ h9 => h9) rfl dX6_isSo_4 ?_
  refine lv_iload_n hx hb dX6_isSo_7 rfl (lv_at hl 1 rfl) ?_
  refine va_iald hx hb hK hP 7 1 rfl rfl (gd_in hm) dX6_isSo_8 ?_
  have hm := gd_go hm
  by_cases hs0 : (pr_kind x0.toNatClampNeg) = (1 : Int32)
  · have hm := if_t hs0 hm
    refine k_lkIn (tgt := 36) (off := 27) hx hb (1 : Int32) hs0 dX6_isSo_9 (by decide) (by decide) (by decide) ?_
    refine lv_aload_n hx hb dX6_isSo_36 rfl (lv_at hl 0 rfl) ?_
    refine lv_iload_n hx hb dX6_isSo_37 rfl (lv_at hl 1 rfl) ?_
    by_cases hc : x0 = t_latestEntry
    · have hm := if_t hc hm
      refine k_callV (As := [.int x0]) (rest := []) (wr := [(t_value_a, .inl (cI, 38, .inl t_value)), (fa, .inr (1, [.ref fa_row_a, .ref fa_count_a])), (fa_row_a, .inl (cI, 1440, .inl fa_row)), (la, .inr (1, [.ref la_row_a, .ref la_count_a])), (la_row_a, .inl (cI, 1440, .inl la_row)), (pr, .inr (4, [.ref pr_kind_a, .ref pr_place_a, .ref pr_who_a, .ref pr_width_a, .ref pr_term_a, .ref pr_start_a, .int pr_size, .int pr_rules, .ref pr_sort_a, .ref pr_arity_a, .ref pr_stratum_a, .ref pr_reach_a])), (pr_kind_a, .inl (cI, 240, .inl pr_kind)), (pr_who_a, .inl (cI, 240, .inl pr_who)), (pr_width_a, .inl (cI, 240, .inl pr_width)), (pr_term_a, .inl (cI, 720, .inl pr_term))]) (ws1 := [(t, .inr (6, [.ref fa, .ref fr, .ref la, .ref t_value_a, .ref t_plan_a, .ref pr, .int t_planned, .int t_head, .int t_end, .int t_latestEntry, .int t_counting, .int t_solutions])), (t_value_a, .inl (cI, 38, .inl t_value)), (fa, .inr (1, [.ref fa_row_a, .ref fa_count_a])), (fa_row_a, .inl (cI, 1440, .inl fa_row)), (la, .inr (1, [.ref la_row_a, .ref la_count_a])), (la_row_a, .inl (cI, 1440, .inl la_row)), (pr, .inr (4, [.ref pr_kind_a, .ref pr_place_a, .ref pr_who_a, .ref pr_width_a, .ref pr_term_a, .ref pr_start_a, .int pr_size, .int pr_rules, .ref pr_sort_a, .ref pr_arity_a, .ref pr_stratum_a, .ref pr_reach_a])), (pr_kind_a, .inl (cI, 240, .inl pr_kind)), (pr_who_a, .inl (cI, 240, .inl pr_who)), (pr_width_a, .inl (cI, 240, .inl pr_width)), (pr_term_a, .inl (cI, 720, .inl pr_term))]) [0] [1, 2, 3, 4, 5, 6, 7, 8, 9, 10] [10, 0, 1, 2, 3, 4, 5, 6, 7, 8, 9] (K_Search_sourceOf_1 l D cB cI cZ cJ t fa fr la t_value_a t_plan_a pr t_planned t_head t_end t_latestEntry t_counting t_solutions x0 hc) mf_X6_sourceOf km_X6_83 hx hb hml hown hts hK hP hD hS hA hl.1 ⟨Nat.zero_le _, Nat.zero_le _⟩ dX6_isSo_38 rfl rfl (Nat.le_of_ble_eq_true rfl) ⟨⟨rfl, rfl⟩, Nat.le_of_ble_eq_true rfl, Nat.le_of_ble_eq_true rfl⟩ rfl rfl (by decide) rfl rfl rfl rfl (fun H locs hP hD hS => ?_)
      have hP : va_P D vwCl [(t, .inr (6, [.ref fa, .ref fr, .ref la, .ref t_value_a, .ref t_plan_a, .ref pr, .int t_planned, .int t_head, .int t_end, .int t_latestEntry, .int t_counting, .int t_solutions])), (t_value_a, .inl (cI, 38, .inl t_value)), (fa, .inr (1, [.ref fa_row_a, .ref fa_count_a])), (fa_row_a, .inl (cI, 1440, .inl fa_row)), (la, .inr (1, [.ref la_row_a, .ref la_count_a])), (la_row_a, .inl (cI, 1440, .inl la_row)), (pr, .inr (4, [.ref pr_kind_a, .ref pr_place_a, .ref pr_who_a, .ref pr_width_a, .ref pr_term_a, .ref pr_start_a, .int pr_size, .int pr_rules, .ref pr_sort_a, .ref pr_arity_a, .ref pr_stratum_a, .ref pr_reach_a])), (pr_kind_a, .inl (cI, 240, .inl pr_kind)), (pr_who_a, .inl (cI, 240, .inl pr_who)), (pr_width_a, .inl (cI, 240, .inl pr_width)), (pr_term_a, .inl (cI, 720, .inl pr_term))] H := hP
      have hD : va_D A [(t, .inr (6, [.ref fa, .ref fr, .ref la, .ref t_value_a, .ref t_plan_a, .ref pr, .int t_planned, .int t_head, .int t_end, .int t_latestEntry, .int t_counting, .int t_solutions])), (t_value_a, .inl (cI, 38, .inl t_value)), (fa, .inr (1, [.ref fa_row_a, .ref fa_count_a])), (fa_row_a, .inl (cI, 1440, .inl fa_row)), (la, .inr (1, [.ref la_row_a, .ref la_count_a])), (la_row_a, .inl (cI, 1440, .inl la_row)), (pr, .inr (4, [.ref pr_kind_a, .ref pr_place_a, .ref pr_who_a, .ref pr_width_a, .ref pr_term_a, .ref pr_start_a, .int pr_size, .int pr_rules, .ref pr_sort_a, .ref pr_arity_a, .ref pr_stratum_a, .ref pr_reach_a])), (pr_kind_a, .inl (cI, 240, .inl pr_kind)), (pr_who_a, .inl (cI, 240, .inl pr_who)), (pr_width_a, .inl (cI, 240, .inl pr_width)), (pr_term_a, .inl (cI, 720, .inl pr_term))] := hD
      refine lv_aload_n hx hb dX6_isSo_41 rfl (lv_at hl 0 rfl) ?_
      refine va_get (D := D) (ci := 6) (v := .ref pr) (C := RX6) (T := TX6) (N := 12) hx hb hts in_X6 hown hK hP 0 rfl rfl 5 (by decide) (hts _ kf_X6_38) (fun _ h9 => h9) rfl dX6_isSo_42 ?_
      refine va_get (D := D) (ci := 4) (v := .ref pr_who_a) (C := RX4) (T := TX4) (N := 12) hx hb hts in_X4 hown hK hP 6 rfl rfl 2 (by decide) (hts _ kf_X6_87) (fun _ h9 => h9) rfl dX6_isSo_45 ?_
      refine lv_iload_n hx hb dX6_isSo_48 rfl (lv_at hl 1 rfl) ?_
      refine va_iald hx hb hK hP 8 1 rfl rfl (gd_in hm) dX6_isSo_49 ?_
      have hm := gd_go hm
      refine lv_aload_n hx hb dX6_isSo_50 rfl (lv_at hl 0 rfl) ?_
      refine lv_iload_n hx hb dX6_isSo_51 rfl (lv_at hl 1 rfl) ?_
      obtain ⟨z1, hz1, hm⟩ := bd_at hm
      refine k_callV (As := [.int x0]) (rest := [.int (pr_who x0.toNatClampNeg), .ref la]) (wr := [(fa, .inr (1, [.ref fa_row_a, .ref fa_count_a])), (fa_row_a, .inl (cI, 1440, .inl fa_row)), (la, .inr (1, [.ref la_row_a, .ref la_count_a])), (la_row_a, .inl (cI, 1440, .inl la_row)), (pr_kind_a, .inl (cI, 240, .inl pr_kind)), (pr_who_a, .inl (cI, 240, .inl pr_who))]) (ws1 := [(t, .inr (6, [.ref fa, .ref fr, .ref la, .ref t_value_a, .ref t_plan_a, .ref pr, .int t_planned, .int t_head, .int t_end, .int t_latestEntry, .int t_counting, .int t_solutions])), (t_value_a, .inl (cI, 38, .inl t_value)), (fa, .inr (1, [.ref fa_row_a, .ref fa_count_a])), (fa_row_a, .inl (cI, 1440, .inl fa_row)), (la, .inr (1, [.ref la_row_a, .ref la_count_a])), (la_row_a, .inl (cI, 1440, .inl la_row)), (pr, .inr (4, [.ref pr_kind_a, .ref pr_place_a, .ref pr_who_a, .ref pr_width_a, .ref pr_term_a, .ref pr_start_a, .int pr_size, .int pr_rules, .ref pr_sort_a, .ref pr_arity_a, .ref pr_stratum_a, .ref pr_reach_a])), (pr_kind_a, .inl (cI, 240, .inl pr_kind)), (pr_who_a, .inl (cI, 240, .inl pr_who)), (pr_width_a, .inl (cI, 240, .inl pr_width)), (pr_term_a, .inl (cI, 720, .inl pr_term))]) [0, 1, 6, 9, 10] [2, 3, 4, 5, 7, 8] [6, 7, 0, 1, 2, 3, 8, 4, 5, 9, 10] (K_Search_numberOf l D cB cI cZ cJ t fa fr la t_value_a t_plan_a pr pr_kind_a pr_place_a pr_who_a pr_width_a pr_term_a pr_start_a pr_sort_a pr_arity_a pr_stratum_a pr_reach_a t_planned t_head t_end t_latestEntry t_counting t_solutions t_value pr_size pr_rules pr_width pr_term x0 F z1 hz1) mf_X6_numberOf km_X6_110 hx hb hml hown hts hK hP hD hS hA hl.1 ⟨Nat.zero_le _, Nat.zero_le _⟩ dX6_isSo_52 rfl rfl (Nat.le_of_ble_eq_true rfl) ⟨⟨rfl, rfl⟩, Nat.le_of_ble_eq_true rfl, Nat.le_of_ble_eq_true rfl⟩ rfl rfl (by decide) rfl rfl rfl rfl (fun H locs hP hD hS => ?_)
      have hP : va_P D vwCl [(t, .inr (6, [.ref fa, .ref fr, .ref la, .ref t_value_a, .ref t_plan_a, .ref pr, .int t_planned, .int t_head, .int t_end, .int t_latestEntry, .int t_counting, .int t_solutions])), (t_value_a, .inl (cI, 38, .inl t_value)), (fa, .inr (1, [.ref fa_row_a, .ref fa_count_a])), (fa_row_a, .inl (cI, 1440, .inl fa_row)), (la, .inr (1, [.ref la_row_a, .ref la_count_a])), (la_row_a, .inl (cI, 1440, .inl la_row)), (pr, .inr (4, [.ref pr_kind_a, .ref pr_place_a, .ref pr_who_a, .ref pr_width_a, .ref pr_term_a, .ref pr_start_a, .int pr_size, .int pr_rules, .ref pr_sort_a, .ref pr_arity_a, .ref pr_stratum_a, .ref pr_reach_a])), (pr_kind_a, .inl (cI, 240, .inl pr_kind)), (pr_who_a, .inl (cI, 240, .inl pr_who)), (pr_width_a, .inl (cI, 240, .inl pr_width)), (pr_term_a, .inl (cI, 720, .inl pr_term))] H := hP
      have hD : va_D A [(t, .inr (6, [.ref fa, .ref fr, .ref la, .ref t_value_a, .ref t_plan_a, .ref pr, .int t_planned, .int t_head, .int t_end, .int t_latestEntry, .int t_counting, .int t_solutions])), (t_value_a, .inl (cI, 38, .inl t_value)), (fa, .inr (1, [.ref fa_row_a, .ref fa_count_a])), (fa_row_a, .inl (cI, 1440, .inl fa_row)), (la, .inr (1, [.ref la_row_a, .ref la_count_a])), (la_row_a, .inl (cI, 1440, .inl la_row)), (pr, .inr (4, [.ref pr_kind_a, .ref pr_place_a, .ref pr_who_a, .ref pr_width_a, .ref pr_term_a, .ref pr_start_a, .int pr_size, .int pr_rules, .ref pr_sort_a, .ref pr_arity_a, .ref pr_stratum_a, .ref pr_reach_a])), (pr_kind_a, .inl (cI, 240, .inl pr_kind)), (pr_who_a, .inl (cI, 240, .inl pr_who)), (pr_width_a, .inl (cI, 240, .inl pr_width)), (pr_term_a, .inl (cI, 720, .inl pr_term))] := hD
      obtain ⟨z2, hz2, hm⟩ := bd_at hm
      refine k_callV (As := [.int (pr_who x0.toNatClampNeg), .int z1]) (rest := []) (wr := [(t, .inr (6, [.ref fa, .ref fr, .ref la, .ref t_value_a, .ref t_plan_a, .ref pr, .int t_planned, .int t_head, .int t_end, .int t_latestEntry, .int t_counting, .int t_solutions])), (t_value_a, .inl (cI, 38, .inl t_value)), (fa, .inr (1, [.ref fa_row_a, .ref fa_count_a])), (fa_row_a, .inl (cI, 1440, .inl fa_row)), (pr, .inr (4, [.ref pr_kind_a, .ref pr_place_a, .ref pr_who_a, .ref pr_width_a, .ref pr_term_a, .ref pr_start_a, .int pr_size, .int pr_rules, .ref pr_sort_a, .ref pr_arity_a, .ref pr_stratum_a, .ref pr_reach_a])), (pr_kind_a, .inl (cI, 240, .inl pr_kind)), (pr_who_a, .inl (cI, 240, .inl pr_who)), (pr_width_a, .inl (cI, 240, .inl pr_width)), (pr_term_a, .inl (cI, 720, .inl pr_term))]) (ws1 := [(t, .inr (6, [.ref fa, .ref fr, .ref la, .ref t_value_a, .ref t_plan_a, .ref pr, .int t_planned, .int t_head, .int t_end, .int t_latestEntry, .int t_counting, .int t_solutions])), (t_value_a, .inl (cI, 38, .inl t_value)), (fa, .inr (1, [.ref fa_row_a, .ref fa_count_a])), (fa_row_a, .inl (cI, 1440, .inl fa_row)), (la, .inr (1, [.ref la_row_a, .ref la_count_a])), (la_row_a, .inl (cI, 1440, .inl la_row)), (pr, .inr (4, [.ref pr_kind_a, .ref pr_place_a, .ref pr_who_a, .ref pr_width_a, .ref pr_term_a, .ref pr_start_a, .int pr_size, .int pr_rules, .ref pr_sort_a, .ref pr_arity_a, .ref pr_stratum_a, .ref pr_reach_a])), (pr_kind_a, .inl (cI, 240, .inl pr_kind)), (pr_who_a, .inl (cI, 240, .inl pr_who)), (pr_width_a, .inl (cI, 240, .inl pr_width)), (pr_term_a, .inl (cI, 720, .inl pr_term))]) [4, 5] [0, 1, 2, 3, 6, 7, 8, 9, 10] [0, 1, 2, 3, 9, 10, 4, 5, 6, 7, 8] (K_FactSet_has l D cB cI cZ cJ la la_row_a la_count_a la_row (pr_who x0.toNatClampNeg) z1 z2 hz2) mf_X1_has km_X6_126 hx hb hml hown hts hK hP hD hS hA hl.1 ⟨Nat.zero_le _, Nat.zero_le _⟩ dX6_isSo_55 rfl rfl (Nat.le_of_ble_eq_true rfl) ⟨⟨rfl, rfl⟩, Nat.le_of_ble_eq_true rfl, Nat.le_of_ble_eq_true rfl⟩ rfl rfl (by decide) rfl rfl rfl rfl (fun H locs hP hD hS => ?_)
      have hP : va_P D vwCl [(t, .inr (6, [.ref fa, .ref fr, .ref la, .ref t_value_a, .ref t_plan_a, .ref pr, .int t_planned, .int t_head, .int t_end, .int t_latestEntry, .int t_counting, .int t_solutions])), (t_value_a, .inl (cI, 38, .inl t_value)), (fa, .inr (1, [.ref fa_row_a, .ref fa_count_a])), (fa_row_a, .inl (cI, 1440, .inl fa_row)), (la, .inr (1, [.ref la_row_a, .ref la_count_a])), (la_row_a, .inl (cI, 1440, .inl la_row)), (pr, .inr (4, [.ref pr_kind_a, .ref pr_place_a, .ref pr_who_a, .ref pr_width_a, .ref pr_term_a, .ref pr_start_a, .int pr_size, .int pr_rules, .ref pr_sort_a, .ref pr_arity_a, .ref pr_stratum_a, .ref pr_reach_a])), (pr_kind_a, .inl (cI, 240, .inl pr_kind)), (pr_who_a, .inl (cI, 240, .inl pr_who)), (pr_width_a, .inl (cI, 240, .inl pr_width)), (pr_term_a, .inl (cI, 720, .inl pr_term))] H := hP
      have hD : va_D A [(t, .inr (6, [.ref fa, .ref fr, .ref la, .ref t_value_a, .ref t_plan_a, .ref pr, .int t_planned, .int t_head, .int t_end, .int t_latestEntry, .int t_counting, .int t_solutions])), (t_value_a, .inl (cI, 38, .inl t_value)), (fa, .inr (1, [.ref fa_row_a, .ref fa_count_a])), (fa_row_a, .inl (cI, 1440, .inl fa_row)), (la, .inr (1, [.ref la_row_a, .ref la_count_a])), (la_row_a, .inl (cI, 1440, .inl la_row)), (pr, .inr (4, [.ref pr_kind_a, .ref pr_place_a, .ref pr_who_a, .ref pr_width_a, .ref pr_term_a, .ref pr_start_a, .int pr_size, .int pr_rules, .ref pr_sort_a, .ref pr_arity_a, .ref pr_stratum_a, .ref pr_reach_a])), (pr_kind_a, .inl (cI, 240, .inl pr_kind)), (pr_who_a, .inl (cI, 240, .inl pr_who)), (pr_width_a, .inl (cI, 240, .inl pr_width)), (pr_term_a, .inl (cI, 720, .inl pr_term))] := hD
      have hz := gz_in hm
      have hm := gz_go hm
      have ho := Option.some.inj hm
      exact k_zret (gz_nar hz) hx hb hr hlocks hK hP hD hS dX6_isSo_58 hQ (by rw [← ho]) rfl
    · have hm := if_f hc hm
      refine k_callV (As := [.int x0]) (rest := []) (wr := [(t_value_a, .inl (cI, 38, .inl t_value)), (fa, .inr (1, [.ref fa_row_a, .ref fa_count_a])), (fa_row_a, .inl (cI, 1440, .inl fa_row)), (la, .inr (1, [.ref la_row_a, .ref la_count_a])), (la_row_a, .inl (cI, 1440, .inl la_row)), (pr, .inr (4, [.ref pr_kind_a, .ref pr_place_a, .ref pr_who_a, .ref pr_width_a, .ref pr_term_a, .ref pr_start_a, .int pr_size, .int pr_rules, .ref pr_sort_a, .ref pr_arity_a, .ref pr_stratum_a, .ref pr_reach_a])), (pr_kind_a, .inl (cI, 240, .inl pr_kind)), (pr_who_a, .inl (cI, 240, .inl pr_who)), (pr_width_a, .inl (cI, 240, .inl pr_width)), (pr_term_a, .inl (cI, 720, .inl pr_term))]) (ws1 := [(t, .inr (6, [.ref fa, .ref fr, .ref la, .ref t_value_a, .ref t_plan_a, .ref pr, .int t_planned, .int t_head, .int t_end, .int t_latestEntry, .int t_counting, .int t_solutions])), (t_value_a, .inl (cI, 38, .inl t_value)), (fa, .inr (1, [.ref fa_row_a, .ref fa_count_a])), (fa_row_a, .inl (cI, 1440, .inl fa_row)), (la, .inr (1, [.ref la_row_a, .ref la_count_a])), (la_row_a, .inl (cI, 1440, .inl la_row)), (pr, .inr (4, [.ref pr_kind_a, .ref pr_place_a, .ref pr_who_a, .ref pr_width_a, .ref pr_term_a, .ref pr_start_a, .int pr_size, .int pr_rules, .ref pr_sort_a, .ref pr_arity_a, .ref pr_stratum_a, .ref pr_reach_a])), (pr_kind_a, .inl (cI, 240, .inl pr_kind)), (pr_who_a, .inl (cI, 240, .inl pr_who)), (pr_width_a, .inl (cI, 240, .inl pr_width)), (pr_term_a, .inl (cI, 720, .inl pr_term))]) [0] [1, 2, 3, 4, 5, 6, 7, 8, 9, 10] [10, 0, 1, 2, 3, 4, 5, 6, 7, 8, 9] (K_Search_sourceOf_2 l D cB cI cZ cJ t fa fr la t_value_a t_plan_a pr t_planned t_head t_end t_latestEntry t_counting t_solutions x0 hc) mf_X6_sourceOf km_X6_83 hx hb hml hown hts hK hP hD hS hA hl.1 ⟨Nat.zero_le _, Nat.zero_le _⟩ dX6_isSo_38 rfl rfl (Nat.le_of_ble_eq_true rfl) ⟨⟨rfl, rfl⟩, Nat.le_of_ble_eq_true rfl, Nat.le_of_ble_eq_true rfl⟩ rfl rfl (by decide) rfl rfl rfl rfl (fun H locs hP hD hS => ?_)
      have hP : va_P D vwCl [(t, .inr (6, [.ref fa, .ref fr, .ref la, .ref t_value_a, .ref t_plan_a, .ref pr, .int t_planned, .int t_head, .int t_end, .int t_latestEntry, .int t_counting, .int t_solutions])), (t_value_a, .inl (cI, 38, .inl t_value)), (fa, .inr (1, [.ref fa_row_a, .ref fa_count_a])), (fa_row_a, .inl (cI, 1440, .inl fa_row)), (la, .inr (1, [.ref la_row_a, .ref la_count_a])), (la_row_a, .inl (cI, 1440, .inl la_row)), (pr, .inr (4, [.ref pr_kind_a, .ref pr_place_a, .ref pr_who_a, .ref pr_width_a, .ref pr_term_a, .ref pr_start_a, .int pr_size, .int pr_rules, .ref pr_sort_a, .ref pr_arity_a, .ref pr_stratum_a, .ref pr_reach_a])), (pr_kind_a, .inl (cI, 240, .inl pr_kind)), (pr_who_a, .inl (cI, 240, .inl pr_who)), (pr_width_a, .inl (cI, 240, .inl pr_width)), (pr_term_a, .inl (cI, 720, .inl pr_term))] H := hP
      have hD : va_D A [(t, .inr (6, [.ref fa, .ref fr, .ref la, .ref t_value_a, .ref t_plan_a, .ref pr, .int t_planned, .int t_head, .int t_end, .int t_latestEntry, .int t_counting, .int t_solutions])), (t_value_a, .inl (cI, 38, .inl t_value)), (fa, .inr (1, [.ref fa_row_a, .ref fa_count_a])), (fa_row_a, .inl (cI, 1440, .inl fa_row)), (la, .inr (1, [.ref la_row_a, .ref la_count_a])), (la_row_a, .inl (cI, 1440, .inl la_row)), (pr, .inr (4, [.ref pr_kind_a, .ref pr_place_a, .ref pr_who_a, .ref pr_width_a, .ref pr_term_a, .ref pr_start_a, .int pr_size, .int pr_rules, .ref pr_sort_a, .ref pr_arity_a, .ref pr_stratum_a, .ref pr_reach_a])), (pr_kind_a, .inl (cI, 240, .inl pr_kind)), (pr_who_a, .inl (cI, 240, .inl pr_who)), (pr_width_a, .inl (cI, 240, .inl pr_width)), (pr_term_a, .inl (cI, 720, .inl pr_term))] := hD
      refine lv_aload_n hx hb dX6_isSo_41 rfl (lv_at hl 0 rfl) ?_
      refine va_get (D := D) (ci := 6) (v := .ref pr) (C := RX6) (T := TX6) (N := 12) hx hb hts in_X6 hown hK hP 0 rfl rfl 5 (by decide) (hts _ kf_X6_38) (fun _ h9 => h9) rfl dX6_isSo_42 ?_
      refine va_get (D := D) (ci := 4) (v := .ref pr_who_a) (C := RX4) (T := TX4) (N := 12) hx hb hts in_X4 hown hK hP 6 rfl rfl 2 (by decide) (hts _ kf_X6_87) (fun _ h9 => h9) rfl dX6_isSo_45 ?_
      refine lv_iload_n hx hb dX6_isSo_48 rfl (lv_at hl 1 rfl) ?_
      refine va_iald hx hb hK hP 8 1 rfl rfl (gd_in hm) dX6_isSo_49 ?_
      have hm := gd_go hm
      refine lv_aload_n hx hb dX6_isSo_50 rfl (lv_at hl 0 rfl) ?_
      refine lv_iload_n hx hb dX6_isSo_51 rfl (lv_at hl 1 rfl) ?_
      obtain ⟨z3, hz3, hm⟩ := bd_at hm
      refine k_callV (As := [.int x0]) (rest := [.int (pr_who x0.toNatClampNeg), .ref fa]) (wr := [(fa, .inr (1, [.ref fa_row_a, .ref fa_count_a])), (fa_row_a, .inl (cI, 1440, .inl fa_row)), (la, .inr (1, [.ref la_row_a, .ref la_count_a])), (la_row_a, .inl (cI, 1440, .inl la_row)), (pr_kind_a, .inl (cI, 240, .inl pr_kind)), (pr_who_a, .inl (cI, 240, .inl pr_who))]) (ws1 := [(t, .inr (6, [.ref fa, .ref fr, .ref la, .ref t_value_a, .ref t_plan_a, .ref pr, .int t_planned, .int t_head, .int t_end, .int t_latestEntry, .int t_counting, .int t_solutions])), (t_value_a, .inl (cI, 38, .inl t_value)), (fa, .inr (1, [.ref fa_row_a, .ref fa_count_a])), (fa_row_a, .inl (cI, 1440, .inl fa_row)), (la, .inr (1, [.ref la_row_a, .ref la_count_a])), (la_row_a, .inl (cI, 1440, .inl la_row)), (pr, .inr (4, [.ref pr_kind_a, .ref pr_place_a, .ref pr_who_a, .ref pr_width_a, .ref pr_term_a, .ref pr_start_a, .int pr_size, .int pr_rules, .ref pr_sort_a, .ref pr_arity_a, .ref pr_stratum_a, .ref pr_reach_a])), (pr_kind_a, .inl (cI, 240, .inl pr_kind)), (pr_who_a, .inl (cI, 240, .inl pr_who)), (pr_width_a, .inl (cI, 240, .inl pr_width)), (pr_term_a, .inl (cI, 720, .inl pr_term))]) [0, 1, 6, 9, 10] [2, 3, 4, 5, 7, 8] [6, 7, 0, 1, 2, 3, 8, 4, 5, 9, 10] (K_Search_numberOf l D cB cI cZ cJ t fa fr la t_value_a t_plan_a pr pr_kind_a pr_place_a pr_who_a pr_width_a pr_term_a pr_start_a pr_sort_a pr_arity_a pr_stratum_a pr_reach_a t_planned t_head t_end t_latestEntry t_counting t_solutions t_value pr_size pr_rules pr_width pr_term x0 F z3 hz3) mf_X6_numberOf km_X6_110 hx hb hml hown hts hK hP hD hS hA hl.1 ⟨Nat.zero_le _, Nat.zero_le _⟩ dX6_isSo_52 rfl rfl (Nat.le_of_ble_eq_true rfl) ⟨⟨rfl, rfl⟩, Nat.le_of_ble_eq_true rfl, Nat.le_of_ble_eq_true rfl⟩ rfl rfl (by decide) rfl rfl rfl rfl (fun H locs hP hD hS => ?_)
      have hP : va_P D vwCl [(t, .inr (6, [.ref fa, .ref fr, .ref la, .ref t_value_a, .ref t_plan_a, .ref pr, .int t_planned, .int t_head, .int t_end, .int t_latestEntry, .int t_counting, .int t_solutions])), (t_value_a, .inl (cI, 38, .inl t_value)), (fa, .inr (1, [.ref fa_row_a, .ref fa_count_a])), (fa_row_a, .inl (cI, 1440, .inl fa_row)), (la, .inr (1, [.ref la_row_a, .ref la_count_a])), (la_row_a, .inl (cI, 1440, .inl la_row)), (pr, .inr (4, [.ref pr_kind_a, .ref pr_place_a, .ref pr_who_a, .ref pr_width_a, .ref pr_term_a, .ref pr_start_a, .int pr_size, .int pr_rules, .ref pr_sort_a, .ref pr_arity_a, .ref pr_stratum_a, .ref pr_reach_a])), (pr_kind_a, .inl (cI, 240, .inl pr_kind)), (pr_who_a, .inl (cI, 240, .inl pr_who)), (pr_width_a, .inl (cI, 240, .inl pr_width)), (pr_term_a, .inl (cI, 720, .inl pr_term))] H := hP
      have hD : va_D A [(t, .inr (6, [.ref fa, .ref fr, .ref la, .ref t_value_a, .ref t_plan_a, .ref pr, .int t_planned, .int t_head, .int t_end, .int t_latestEntry, .int t_counting, .int t_solutions])), (t_value_a, .inl (cI, 38, .inl t_value)), (fa, .inr (1, [.ref fa_row_a, .ref fa_count_a])), (fa_row_a, .inl (cI, 1440, .inl fa_row)), (la, .inr (1, [.ref la_row_a, .ref la_count_a])), (la_row_a, .inl (cI, 1440, .inl la_row)), (pr, .inr (4, [.ref pr_kind_a, .ref pr_place_a, .ref pr_who_a, .ref pr_width_a, .ref pr_term_a, .ref pr_start_a, .int pr_size, .int pr_rules, .ref pr_sort_a, .ref pr_arity_a, .ref pr_stratum_a, .ref pr_reach_a])), (pr_kind_a, .inl (cI, 240, .inl pr_kind)), (pr_who_a, .inl (cI, 240, .inl pr_who)), (pr_width_a, .inl (cI, 240, .inl pr_width)), (pr_term_a, .inl (cI, 720, .inl pr_term))] := hD
      obtain ⟨z4, hz4, hm⟩ := bd_at hm
      refine k_callV (As := [.int (pr_who x0.toNatClampNeg), .int z3]) (rest := []) (wr := [(t, .inr (6, [.ref fa, .ref fr, .ref la, .ref t_value_a, .ref t_plan_a, .ref pr, .int t_planned, .int t_head, .int t_end, .int t_latestEntry, .int t_counting, .int t_solutions])), (t_value_a, .inl (cI, 38, .inl t_value)), (la, .inr (1, [.ref la_row_a, .ref la_count_a])), (la_row_a, .inl (cI, 1440, .inl la_row)), (pr, .inr (4, [.ref pr_kind_a, .ref pr_place_a, .ref pr_who_a, .ref pr_width_a, .ref pr_term_a, .ref pr_start_a, .int pr_size, .int pr_rules, .ref pr_sort_a, .ref pr_arity_a, .ref pr_stratum_a, .ref pr_reach_a])), (pr_kind_a, .inl (cI, 240, .inl pr_kind)), (pr_who_a, .inl (cI, 240, .inl pr_who)), (pr_width_a, .inl (cI, 240, .inl pr_width)), (pr_term_a, .inl (cI, 720, .inl pr_term))]) (ws1 := [(t, .inr (6, [.ref fa, .ref fr, .ref la, .ref t_value_a, .ref t_plan_a, .ref pr, .int t_planned, .int t_head, .int t_end, .int t_latestEntry, .int t_counting, .int t_solutions])), (t_value_a, .inl (cI, 38, .inl t_value)), (fa, .inr (1, [.ref fa_row_a, .ref fa_count_a])), (fa_row_a, .inl (cI, 1440, .inl fa_row)), (la, .inr (1, [.ref la_row_a, .ref la_count_a])), (la_row_a, .inl (cI, 1440, .inl la_row)), (pr, .inr (4, [.ref pr_kind_a, .ref pr_place_a, .ref pr_who_a, .ref pr_width_a, .ref pr_term_a, .ref pr_start_a, .int pr_size, .int pr_rules, .ref pr_sort_a, .ref pr_arity_a, .ref pr_stratum_a, .ref pr_reach_a])), (pr_kind_a, .inl (cI, 240, .inl pr_kind)), (pr_who_a, .inl (cI, 240, .inl pr_who)), (pr_width_a, .inl (cI, 240, .inl pr_width)), (pr_term_a, .inl (cI, 720, .inl pr_term))]) [2, 3] [0, 1, 4, 5, 6, 7, 8, 9, 10] [0, 1, 9, 10, 2, 3, 4, 5, 6, 7, 8] (K_FactSet_has l D cB cI cZ cJ fa fa_row_a fa_count_a fa_row (pr_who x0.toNatClampNeg) z3 z4 hz4) mf_X1_has km_X6_126 hx hb hml hown hts hK hP hD hS hA hl.1 ⟨Nat.zero_le _, Nat.zero_le _⟩ dX6_isSo_55 rfl rfl (Nat.le_of_ble_eq_true rfl) ⟨⟨rfl, rfl⟩, Nat.le_of_ble_eq_true rfl, Nat.le_of_ble_eq_true rfl⟩ rfl rfl (by decide) rfl rfl rfl rfl (fun H locs hP hD hS => ?_)
      have hP : va_P D vwCl [(t, .inr (6, [.ref fa, .ref fr, .ref la, .ref t_value_a, .ref t_plan_a, .ref pr, .int t_planned, .int t_head, .int t_end, .int t_latestEntry, .int t_counting, .int t_solutions])), (t_value_a, .inl (cI, 38, .inl t_value)), (fa, .inr (1, [.ref fa_row_a, .ref fa_count_a])), (fa_row_a, .inl (cI, 1440, .inl fa_row)), (la, .inr (1, [.ref la_row_a, .ref la_count_a])), (la_row_a, .inl (cI, 1440, .inl la_row)), (pr, .inr (4, [.ref pr_kind_a, .ref pr_place_a, .ref pr_who_a, .ref pr_width_a, .ref pr_term_a, .ref pr_start_a, .int pr_size, .int pr_rules, .ref pr_sort_a, .ref pr_arity_a, .ref pr_stratum_a, .ref pr_reach_a])), (pr_kind_a, .inl (cI, 240, .inl pr_kind)), (pr_who_a, .inl (cI, 240, .inl pr_who)), (pr_width_a, .inl (cI, 240, .inl pr_width)), (pr_term_a, .inl (cI, 720, .inl pr_term))] H := hP
      have hD : va_D A [(t, .inr (6, [.ref fa, .ref fr, .ref la, .ref t_value_a, .ref t_plan_a, .ref pr, .int t_planned, .int t_head, .int t_end, .int t_latestEntry, .int t_counting, .int t_solutions])), (t_value_a, .inl (cI, 38, .inl t_value)), (fa, .inr (1, [.ref fa_row_a, .ref fa_count_a])), (fa_row_a, .inl (cI, 1440, .inl fa_row)), (la, .inr (1, [.ref la_row_a, .ref la_count_a])), (la_row_a, .inl (cI, 1440, .inl la_row)), (pr, .inr (4, [.ref pr_kind_a, .ref pr_place_a, .ref pr_who_a, .ref pr_width_a, .ref pr_term_a, .ref pr_start_a, .int pr_size, .int pr_rules, .ref pr_sort_a, .ref pr_arity_a, .ref pr_stratum_a, .ref pr_reach_a])), (pr_kind_a, .inl (cI, 240, .inl pr_kind)), (pr_who_a, .inl (cI, 240, .inl pr_who)), (pr_width_a, .inl (cI, 240, .inl pr_width)), (pr_term_a, .inl (cI, 720, .inl pr_term))] := hD
      have hz := gz_in hm
      have hm := gz_go hm
      have ho := Option.some.inj hm
      exact k_zret (gz_nar hz) hx hb hr hlocks hK hP hD hS dX6_isSo_58 hQ (by rw [← ho]) rfl
  · have hm := if_f hs0 hm
    by_cases hs1 : (pr_kind x0.toNatClampNeg) = (2 : Int32)
    · have hm := if_t hs1 hm
      refine k_lkIn (tgt := 59) (off := 50) hx hb (2 : Int32) hs1 dX6_isSo_9 (by decide) (by decide) (by decide) ?_
      refine lv_aload_n hx hb dX6_isSo_59 rfl (lv_at hl 0 rfl) ?_
      refine va_get (D := D) (ci := 6) (v := .ref fa) (C := RX6) (T := TX6) (N := 12) hx hb hts in_X6 hown hK hP 0 rfl rfl 0 (by decide) (hts _ kf_X6_42) (fun _ h9 => h9) rfl dX6_isSo_60 ?_
      refine lv_aload_n hx hb dX6_isSo_63 rfl (lv_at hl 0 rfl) ?_
      refine va_get (D := D) (ci := 6) (v := .ref pr) (C := RX6) (T := TX6) (N := 12) hx hb hts in_X6 hown hK hP 0 rfl rfl 5 (by decide) (hts _ kf_X6_38) (fun _ h9 => h9) rfl dX6_isSo_64 ?_
      refine va_get (D := D) (ci := 4) (v := .ref pr_who_a) (C := RX4) (T := TX4) (N := 12) hx hb hts in_X4 hown hK hP 6 rfl rfl 2 (by decide) (hts _ kf_X6_87) (fun _ h9 => h9) rfl dX6_isSo_67 ?_
      refine lv_iload_n hx hb dX6_isSo_70 rfl (lv_at hl 1 rfl) ?_
      refine va_iald hx hb hK hP 8 1 rfl rfl (gd_in hm) dX6_isSo_71 ?_
      have hm := gd_go hm
      refine lv_aload_n hx hb dX6_isSo_72 rfl (lv_at hl 0 rfl) ?_
      refine lv_iload_n hx hb dX6_isSo_73 rfl (lv_at hl 1 rfl) ?_
      obtain ⟨z5, hz5, hm⟩ := bd_at hm
      refine k_callV (As := [.int x0]) (rest := [.int (pr_who x0.toNatClampNeg), .ref fa]) (wr := [(fa, .inr (1, [.ref fa_row_a, .ref fa_count_a])), (fa_row_a, .inl (cI, 1440, .inl fa_row)), (la, .inr (1, [.ref la_row_a, .ref la_count_a])), (la_row_a, .inl (cI, 1440, .inl la_row)), (pr_kind_a, .inl (cI, 240, .inl pr_kind)), (pr_who_a, .inl (cI, 240, .inl pr_who))]) (ws1 := [(t, .inr (6, [.ref fa, .ref fr, .ref la, .ref t_value_a, .ref t_plan_a, .ref pr, .int t_planned, .int t_head, .int t_end, .int t_latestEntry, .int t_counting, .int t_solutions])), (t_value_a, .inl (cI, 38, .inl t_value)), (fa, .inr (1, [.ref fa_row_a, .ref fa_count_a])), (fa_row_a, .inl (cI, 1440, .inl fa_row)), (la, .inr (1, [.ref la_row_a, .ref la_count_a])), (la_row_a, .inl (cI, 1440, .inl la_row)), (pr, .inr (4, [.ref pr_kind_a, .ref pr_place_a, .ref pr_who_a, .ref pr_width_a, .ref pr_term_a, .ref pr_start_a, .int pr_size, .int pr_rules, .ref pr_sort_a, .ref pr_arity_a, .ref pr_stratum_a, .ref pr_reach_a])), (pr_kind_a, .inl (cI, 240, .inl pr_kind)), (pr_who_a, .inl (cI, 240, .inl pr_who)), (pr_width_a, .inl (cI, 240, .inl pr_width)), (pr_term_a, .inl (cI, 720, .inl pr_term))]) [0, 1, 6, 9, 10] [2, 3, 4, 5, 7, 8] [6, 7, 0, 1, 2, 3, 8, 4, 5, 9, 10] (K_Search_numberOf l D cB cI cZ cJ t fa fr la t_value_a t_plan_a pr pr_kind_a pr_place_a pr_who_a pr_width_a pr_term_a pr_start_a pr_sort_a pr_arity_a pr_stratum_a pr_reach_a t_planned t_head t_end t_latestEntry t_counting t_solutions t_value pr_size pr_rules pr_width pr_term x0 F z5 hz5) mf_X6_numberOf km_X6_110 hx hb hml hown hts hK hP hD hS hA hl.1 ⟨Nat.zero_le _, Nat.zero_le _⟩ dX6_isSo_74 rfl rfl (Nat.le_of_ble_eq_true rfl) ⟨⟨rfl, rfl⟩, Nat.le_of_ble_eq_true rfl, Nat.le_of_ble_eq_true rfl⟩ rfl rfl (by decide) rfl rfl rfl rfl (fun H locs hP hD hS => ?_)
      have hP : va_P D vwCl [(t, .inr (6, [.ref fa, .ref fr, .ref la, .ref t_value_a, .ref t_plan_a, .ref pr, .int t_planned, .int t_head, .int t_end, .int t_latestEntry, .int t_counting, .int t_solutions])), (t_value_a, .inl (cI, 38, .inl t_value)), (fa, .inr (1, [.ref fa_row_a, .ref fa_count_a])), (fa_row_a, .inl (cI, 1440, .inl fa_row)), (la, .inr (1, [.ref la_row_a, .ref la_count_a])), (la_row_a, .inl (cI, 1440, .inl la_row)), (pr, .inr (4, [.ref pr_kind_a, .ref pr_place_a, .ref pr_who_a, .ref pr_width_a, .ref pr_term_a, .ref pr_start_a, .int pr_size, .int pr_rules, .ref pr_sort_a, .ref pr_arity_a, .ref pr_stratum_a, .ref pr_reach_a])), (pr_kind_a, .inl (cI, 240, .inl pr_kind)), (pr_who_a, .inl (cI, 240, .inl pr_who)), (pr_width_a, .inl (cI, 240, .inl pr_width)), (pr_term_a, .inl (cI, 720, .inl pr_term))] H := hP
      have hD : va_D A [(t, .inr (6, [.ref fa, .ref fr, .ref la, .ref t_value_a, .ref t_plan_a, .ref pr, .int t_planned, .int t_head, .int t_end, .int t_latestEntry, .int t_counting, .int t_solutions])), (t_value_a, .inl (cI, 38, .inl t_value)), (fa, .inr (1, [.ref fa_row_a, .ref fa_count_a])), (fa_row_a, .inl (cI, 1440, .inl fa_row)), (la, .inr (1, [.ref la_row_a, .ref la_count_a])), (la_row_a, .inl (cI, 1440, .inl la_row)), (pr, .inr (4, [.ref pr_kind_a, .ref pr_place_a, .ref pr_who_a, .ref pr_width_a, .ref pr_term_a, .ref pr_start_a, .int pr_size, .int pr_rules, .ref pr_sort_a, .ref pr_arity_a, .ref pr_stratum_a, .ref pr_reach_a])), (pr_kind_a, .inl (cI, 240, .inl pr_kind)), (pr_who_a, .inl (cI, 240, .inl pr_who)), (pr_width_a, .inl (cI, 240, .inl pr_width)), (pr_term_a, .inl (cI, 720, .inl pr_term))] := hD
      obtain ⟨z6, hz6, hm⟩ := bd_at hm
      refine k_callV (As := [.int (pr_who x0.toNatClampNeg), .int z5]) (rest := []) (wr := [(t, .inr (6, [.ref fa, .ref fr, .ref la, .ref t_value_a, .ref t_plan_a, .ref pr, .int t_planned, .int t_head, .int t_end, .int t_latestEntry, .int t_counting, .int t_solutions])), (t_value_a, .inl (cI, 38, .inl t_value)), (la, .inr (1, [.ref la_row_a, .ref la_count_a])), (la_row_a, .inl (cI, 1440, .inl la_row)), (pr, .inr (4, [.ref pr_kind_a, .ref pr_place_a, .ref pr_who_a, .ref pr_width_a, .ref pr_term_a, .ref pr_start_a, .int pr_size, .int pr_rules, .ref pr_sort_a, .ref pr_arity_a, .ref pr_stratum_a, .ref pr_reach_a])), (pr_kind_a, .inl (cI, 240, .inl pr_kind)), (pr_who_a, .inl (cI, 240, .inl pr_who)), (pr_width_a, .inl (cI, 240, .inl pr_width)), (pr_term_a, .inl (cI, 720, .inl pr_term))]) (ws1 := [(t, .inr (6, [.ref fa, .ref fr, .ref la, .ref t_value_a, .ref t_plan_a, .ref pr, .int t_planned, .int t_head, .int t_end, .int t_latestEntry, .int t_counting, .int t_solutions])), (t_value_a, .inl (cI, 38, .inl t_value)), (fa, .inr (1, [.ref fa_row_a, .ref fa_count_a])), (fa_row_a, .inl (cI, 1440, .inl fa_row)), (la, .inr (1, [.ref la_row_a, .ref la_count_a])), (la_row_a, .inl (cI, 1440, .inl la_row)), (pr, .inr (4, [.ref pr_kind_a, .ref pr_place_a, .ref pr_who_a, .ref pr_width_a, .ref pr_term_a, .ref pr_start_a, .int pr_size, .int pr_rules, .ref pr_sort_a, .ref pr_arity_a, .ref pr_stratum_a, .ref pr_reach_a])), (pr_kind_a, .inl (cI, 240, .inl pr_kind)), (pr_who_a, .inl (cI, 240, .inl pr_who)), (pr_width_a, .inl (cI, 240, .inl pr_width)), (pr_term_a, .inl (cI, 720, .inl pr_term))]) [2, 3] [0, 1, 4, 5, 6, 7, 8, 9, 10] [0, 1, 9, 10, 2, 3, 4, 5, 6, 7, 8] (K_FactSet_has l D cB cI cZ cJ fa fa_row_a fa_count_a fa_row (pr_who x0.toNatClampNeg) z5 z6 hz6) mf_X1_has km_X6_126 hx hb hml hown hts hK hP hD hS hA hl.1 ⟨Nat.zero_le _, Nat.zero_le _⟩ dX6_isSo_77 rfl rfl (Nat.le_of_ble_eq_true rfl) ⟨⟨rfl, rfl⟩, Nat.le_of_ble_eq_true rfl, Nat.le_of_ble_eq_true rfl⟩ rfl rfl (by decide) rfl rfl rfl rfl (fun H locs hP hD hS => ?_)
      have hP : va_P D vwCl [(t, .inr (6, [.ref fa, .ref fr, .ref la, .ref t_value_a, .ref t_plan_a, .ref pr, .int t_planned, .int t_head, .int t_end, .int t_latestEntry, .int t_counting, .int t_solutions])), (t_value_a, .inl (cI, 38, .inl t_value)), (fa, .inr (1, [.ref fa_row_a, .ref fa_count_a])), (fa_row_a, .inl (cI, 1440, .inl fa_row)), (la, .inr (1, [.ref la_row_a, .ref la_count_a])), (la_row_a, .inl (cI, 1440, .inl la_row)), (pr, .inr (4, [.ref pr_kind_a, .ref pr_place_a, .ref pr_who_a, .ref pr_width_a, .ref pr_term_a, .ref pr_start_a, .int pr_size, .int pr_rules, .ref pr_sort_a, .ref pr_arity_a, .ref pr_stratum_a, .ref pr_reach_a])), (pr_kind_a, .inl (cI, 240, .inl pr_kind)), (pr_who_a, .inl (cI, 240, .inl pr_who)), (pr_width_a, .inl (cI, 240, .inl pr_width)), (pr_term_a, .inl (cI, 720, .inl pr_term))] H := hP
      have hD : va_D A [(t, .inr (6, [.ref fa, .ref fr, .ref la, .ref t_value_a, .ref t_plan_a, .ref pr, .int t_planned, .int t_head, .int t_end, .int t_latestEntry, .int t_counting, .int t_solutions])), (t_value_a, .inl (cI, 38, .inl t_value)), (fa, .inr (1, [.ref fa_row_a, .ref fa_count_a])), (fa_row_a, .inl (cI, 1440, .inl fa_row)), (la, .inr (1, [.ref la_row_a, .ref la_count_a])), (la_row_a, .inl (cI, 1440, .inl la_row)), (pr, .inr (4, [.ref pr_kind_a, .ref pr_place_a, .ref pr_who_a, .ref pr_width_a, .ref pr_term_a, .ref pr_start_a, .int pr_size, .int pr_rules, .ref pr_sort_a, .ref pr_arity_a, .ref pr_stratum_a, .ref pr_reach_a])), (pr_kind_a, .inl (cI, 240, .inl pr_kind)), (pr_who_a, .inl (cI, 240, .inl pr_who)), (pr_width_a, .inl (cI, 240, .inl pr_width)), (pr_term_a, .inl (cI, 720, .inl pr_term))] := hD
      refine lv_if_ne (tgt := 87) hx hb dX6_isSo_80 (by decide) (fun hc => ?_) (fun hc => ?_)
      · have hm := if_f hc hm
        refine lv_iconst (v := (0 : Int32)) hx hb dX6_isSo_87 (by decide) ?_
        have ho := Option.some.inj hm
        exact k_zret (by decide +kernel) hx hb hr hlocks hK hP hD hS dX6_isSo_88 hQ (by rw [← ho]) rfl
      · have hm := if_t hc hm
        refine lv_iconst (v := (1 : Int32)) hx hb dX6_isSo_83 (by decide) ?_
        refine lv_goto (tgt := 88) hx hb dX6_isSo_84 (by decide) ?_
        have ho := Option.some.inj hm
        exact k_zret (by decide +kernel) hx hb hr hlocks hK hP hD hS dX6_isSo_88 hQ (by rw [← ho]) rfl
    · have hm := if_f hs1 hm
      refine lv_lookup (tgt := 89) (off := 80) hx hb dX6_isSo_9 (by decide) (by simp [Op.lookupswitch.offset, k_toI 1 (1 : Int32) (by decide) hs0, k_toI 2 (2 : Int32) (by decide) hs1]) (by decide) ?_
      refine lv_aload_n hx hb dX6_isSo_89 rfl (lv_at hl 0 rfl) ?_
      refine lv_iload_n hx hb dX6_isSo_90 rfl (lv_at hl 1 rfl) ?_
      obtain ⟨z7, hz7, hm⟩ := bd_at hm
      refine k_callV (As := [.int x0]) (rest := []) (wr := [(fa, .inr (1, [.ref fa_row_a, .ref fa_count_a])), (fa_row_a, .inl (cI, 1440, .inl fa_row)), (la, .inr (1, [.ref la_row_a, .ref la_count_a])), (la_row_a, .inl (cI, 1440, .inl la_row)), (pr_who_a, .inl (cI, 240, .inl pr_who)), (pr_width_a, .inl (cI, 240, .inl pr_width))]) (ws1 := [(t, .inr (6, [.ref fa, .ref fr, .ref la, .ref t_value_a, .ref t_plan_a, .ref pr, .int t_planned, .int t_head, .int t_end, .int t_latestEntry, .int t_counting, .int t_solutions])), (t_value_a, .inl (cI, 38, .inl t_value)), (fa, .inr (1, [.ref fa_row_a, .ref fa_count_a])), (fa_row_a, .inl (cI, 1440, .inl fa_row)), (la, .inr (1, [.ref la_row_a, .ref la_count_a])), (la_row_a, .inl (cI, 1440, .inl la_row)), (pr, .inr (4, [.ref pr_kind_a, .ref pr_place_a, .ref pr_who_a, .ref pr_width_a, .ref pr_term_a, .ref pr_start_a, .int pr_size, .int pr_rules, .ref pr_sort_a, .ref pr_arity_a, .ref pr_stratum_a, .ref pr_reach_a])), (pr_kind_a, .inl (cI, 240, .inl pr_kind)), (pr_who_a, .inl (cI, 240, .inl pr_who)), (pr_width_a, .inl (cI, 240, .inl pr_width)), (pr_term_a, .inl (cI, 720, .inl pr_term))]) [0, 1, 6, 7, 10] [2, 3, 4, 5, 8, 9] [6, 7, 0, 1, 2, 3, 8, 9, 4, 5, 10] (K_Search_compare l D cB cI cZ cJ t fa fr la t_value_a t_plan_a pr pr_kind_a pr_place_a pr_who_a pr_width_a pr_term_a pr_start_a pr_sort_a pr_arity_a pr_stratum_a pr_reach_a t_planned t_head t_end t_latestEntry t_counting t_solutions t_value pr_size pr_rules pr_kind pr_term x0 z7 hz7) mf_X6_compare km_X6_130 hx hb hml hown hts hK hP hD hS hA hl.1 ⟨Nat.zero_le _, Nat.zero_le _⟩ dX6_isSo_91 rfl rfl (Nat.le_of_ble_eq_true rfl) ⟨⟨rfl, rfl⟩, Nat.le_of_ble_eq_true rfl, Nat.le_of_ble_eq_true rfl⟩ rfl rfl (by decide) rfl rfl rfl rfl (fun H locs hP hD hS => ?_)
      have hP : va_P D vwCl [(t, .inr (6, [.ref fa, .ref fr, .ref la, .ref t_value_a, .ref t_plan_a, .ref pr, .int t_planned, .int t_head, .int t_end, .int t_latestEntry, .int t_counting, .int t_solutions])), (t_value_a, .inl (cI, 38, .inl t_value)), (fa, .inr (1, [.ref fa_row_a, .ref fa_count_a])), (fa_row_a, .inl (cI, 1440, .inl fa_row)), (la, .inr (1, [.ref la_row_a, .ref la_count_a])), (la_row_a, .inl (cI, 1440, .inl la_row)), (pr, .inr (4, [.ref pr_kind_a, .ref pr_place_a, .ref pr_who_a, .ref pr_width_a, .ref pr_term_a, .ref pr_start_a, .int pr_size, .int pr_rules, .ref pr_sort_a, .ref pr_arity_a, .ref pr_stratum_a, .ref pr_reach_a])), (pr_kind_a, .inl (cI, 240, .inl pr_kind)), (pr_who_a, .inl (cI, 240, .inl pr_who)), (pr_width_a, .inl (cI, 240, .inl pr_width)), (pr_term_a, .inl (cI, 720, .inl pr_term))] H := hP
      have hD : va_D A [(t, .inr (6, [.ref fa, .ref fr, .ref la, .ref t_value_a, .ref t_plan_a, .ref pr, .int t_planned, .int t_head, .int t_end, .int t_latestEntry, .int t_counting, .int t_solutions])), (t_value_a, .inl (cI, 38, .inl t_value)), (fa, .inr (1, [.ref fa_row_a, .ref fa_count_a])), (fa_row_a, .inl (cI, 1440, .inl fa_row)), (la, .inr (1, [.ref la_row_a, .ref la_count_a])), (la_row_a, .inl (cI, 1440, .inl la_row)), (pr, .inr (4, [.ref pr_kind_a, .ref pr_place_a, .ref pr_who_a, .ref pr_width_a, .ref pr_term_a, .ref pr_start_a, .int pr_size, .int pr_rules, .ref pr_sort_a, .ref pr_arity_a, .ref pr_stratum_a, .ref pr_reach_a])), (pr_kind_a, .inl (cI, 240, .inl pr_kind)), (pr_who_a, .inl (cI, 240, .inl pr_who)), (pr_width_a, .inl (cI, 240, .inl pr_width)), (pr_term_a, .inl (cI, 720, .inl pr_term))] := hD
      have hz := gz_in hm
      have hm := gz_go hm
      have ho := Option.some.inj hm
      exact k_zret (gz_nar hz) hx hb hr hlocks hK hP hD hS dX6_isSo_94 hQ (by rw [← ho]) rfl
noncomputable def M_Search_takeSolution (t_head : Int32) (t_counting : Int32) (t_solutions : Int32) (fa_row : Nat → Int32) (fr_row : Nat → Int32) (fr_count : Nat → Int32) (pr_who : Nat → Int32) (x0 : Int32) : Option ((Int32) × (Nat → Int32) × (Nat → Int32)) := if t_counting = 0 then (gd_ t_head 240 <| bd_ (M_FactSet_has fa_row (pr_who t_head.toNatClampNeg) x0) fun z1 => if z1 = 0 then (gd_ t_head 240 <| bd_ (M_FactSet_add fr_row fr_count (pr_who t_head.toNatClampNeg) x0) fun z2 => some (t_solutions, z2.1, z2.2)) else (some (t_solutions, fr_row, fr_count))) else (lt_ ((t_solutions + (1 : Int32))) fun v3 => some (v3, fr_row, fr_count))
set_option maxRecDepth 100000 in
set_option maxHeartbeats 4000000 in
theorem K_Search_takeSolution (l : Launch) (D : va_G) (cB cI cZ cJ : ClassId) (t : Nat) (fa : Nat) (fr : Nat) (la : Nat) (t_value_a : Nat) (t_plan_a : Nat) (pr : Nat) (fa_row_a : Nat) (fa_count_a : Nat) (fr_row_a : Nat) (fr_count_a : Nat) (pr_kind_a : Nat) (pr_place_a : Nat) (pr_who_a : Nat) (pr_width_a : Nat) (pr_term_a : Nat) (pr_start_a : Nat) (pr_sort_a : Nat) (pr_arity_a : Nat) (pr_stratum_a : Nat) (pr_reach_a : Nat) (t_planned : Int32) (t_head : Int32) (t_end : Int32) (t_latestEntry : Int32) (t_counting : Int32) (t_solutions : Int32) (fa_row : Nat → Int32) (fr_row : Nat → Int32) (fr_count : Nat → Int32) (pr_size : Int32) (pr_rules : Int32) (pr_who : Nat → Int32) (x0 : Int32) (out : (Int32) × (Nat → Int32) × (Nat → Int32)) (hm : M_Search_takeSolution t_head t_counting t_solutions fa_row fr_row fr_count pr_who x0 = some out) : KC l yX6_takeSolution cX6_takeSolution 2 none { frames := 1, cells := 0, slots := 0, locals := 24 } D (kTy cB cI cZ cJ) [.ref t, .int x0] [(t, .inr (6, [.ref fa, .ref fr, .ref la, .ref t_value_a, .ref t_plan_a, .ref pr, .int t_planned, .int t_head, .int t_end, .int t_latestEntry, .int t_counting, .int t_solutions])), (fa, .inr (1, [.ref fa_row_a, .ref fa_count_a])), (fa_row_a, .inl (cI, 1440, .inl fa_row)), (fr, .inr (1, [.ref fr_row_a, .ref fr_count_a])), (fr_row_a, .inl (cI, 1440, .inl fr_row)), (fr_count_a, .inl (cI, 10, .inl fr_count)), (pr, .inr (4, [.ref pr_kind_a, .ref pr_place_a, .ref pr_who_a, .ref pr_width_a, .ref pr_term_a, .ref pr_start_a, .int pr_size, .int pr_rules, .ref pr_sort_a, .ref pr_arity_a, .ref pr_stratum_a, .ref pr_reach_a])), (pr_who_a, .inl (cI, 240, .inl pr_who))] none [(t, .inr (6, [.ref fa, .ref fr, .ref la, .ref t_value_a, .ref t_plan_a, .ref pr, .int t_planned, .int t_head, .int t_end, .int t_latestEntry, .int t_counting, .int out.1])), (fa, .inr (1, [.ref fa_row_a, .ref fa_count_a])), (fa_row_a, .inl (cI, 1440, .inl fa_row)), (fr, .inr (1, [.ref fr_row_a, .ref fr_count_a])), (fr_row_a, .inl (cI, 1440, .inl out.2.1)), (fr_count_a, .inl (cI, 10, .inl out.2.2)), (pr, .inr (4, [.ref pr_kind_a, .ref pr_place_a, .ref pr_who_a, .ref pr_width_a, .ref pr_term_a, .ref pr_start_a, .int pr_size, .int pr_rules, .ref pr_sort_a, .ref pr_arity_a, .ref pr_stratum_a, .ref pr_reach_a])), (pr_who_a, .inl (cI, 240, .inl pr_who))] := by
  refine KC.of (by decide +kernel) (Nat.le_of_ble_eq_true rfl) ?_
  intro p e s m below meth c A ls args Q hQ CX hA hK hP hD hl
  obtain ⟨hx, hb, hr, hml, hown, hts, hlocks⟩ := CX
  have hown : s.vm.findClass RX6 = some m.cls := hown
  have hS : va_S A s.heap s.heap [] := va_S.rf
  have hl : lv_has ls 2 [(0, .ref t), (1, .int x0)] := hl
  unfold M_Search_takeSolution at hm
  obtain ⟨H, eH⟩ : ∃ H, H = s.heap := ⟨_, rfl⟩
  obtain ⟨locs, el⟩ : ∃ x : List Loc, x = [] := ⟨_, rfl⟩
  have hP : va_P D vwCl [(t, .inr (6, [.ref fa, .ref fr, .ref la, .ref t_value_a, .ref t_plan_a, .ref pr, .int t_planned, .int t_head, .int t_end, .int t_latestEntry, .int t_counting, .int t_solutions])), (fa, .inr (1, [.ref fa_row_a, .ref fa_count_a])), (fa_row_a, .inl (cI, 1440, .inl fa_row)), (fr, .inr (1, [.ref fr_row_a, .ref fr_count_a])), (fr_row_a, .inl (cI, 1440, .inl fr_row)), (fr_count_a, .inl (cI, 10, .inl fr_count)), (pr, .inr (4, [.ref pr_kind_a, .ref pr_place_a, .ref pr_who_a, .ref pr_width_a, .ref pr_term_a, .ref pr_start_a, .int pr_size, .int pr_rules, .ref pr_sort_a, .ref pr_arity_a, .ref pr_stratum_a, .ref pr_reach_a])), (pr_who_a, .inl (cI, 240, .inl pr_who))] H := eH ▸ hP
  have hS : va_S A s.heap H locs := by rw [eH, el]; exact hS
  suffices hW : W p l e { frames := 1, cells := 0, slots := 0, locals := 24 } s m args below meth c H locs 0 0 Q (F0 m 0 ls []) by rw [eH, el] at hW; exact hW
  clear eH el
  refine lv_aload_n hx hb dX6_takeSolution_0 rfl (lv_at hl 0 rfl) ?_
  refine va_get (D := D) (ci := 6) (v := .int t_counting) (C := RX6) (T := TX6) (N := 12) hx hb hts in_X6 hown hK hP 0 rfl rfl 10 (by decide) (hts _ kf_X6_31) (fun _ h9 => h9) rfl dX6_takeSolution_1 ?_
  refine lv_if_eq (tgt := 20) hx hb dX6_takeSolution_4 (by decide) (fun hc => ?_) (fun hc => ?_)
  · have hm := if_t hc hm
    refine lv_aload_n hx hb dX6_takeSolution_20 rfl (lv_at hl 0 rfl) ?_
    refine va_get (D := D) (ci := 6) (v := .ref fa) (C := RX6) (T := TX6) (N := 12) hx hb hts in_X6 hown hK hP 0 rfl rfl 0 (by decide) (hts _ kf_X6_42) (fun _ h9 => h9) rfl dX6_takeSolution_21 ?_
    refine lv_aload_n hx hb dX6_takeSolution_24 rfl (lv_at hl 0 rfl) ?_
    refine va_get (D := D) (ci := 6) (v := .ref pr) (C := RX6) (T := TX6) (N := 12) hx hb hts in_X6 hown hK hP 0 rfl rfl 5 (by decide) (hts _ kf_X6_38) (fun _ h9 => h9) rfl dX6_takeSolution_25 ?_
    refine va_get (D := D) (ci := 4) (v := .ref pr_who_a) (C := RX4) (T := TX4) (N := 12) hx hb hts in_X4 hown hK hP 6 rfl rfl 2 (by decide) (hts _ kf_X6_87) (fun _ h9 => h9) rfl dX6_takeSolution_28 ?_
    refine lv_aload_n hx hb dX6_takeSolution_31 rfl (lv_at hl 0 rfl) ?_
    refine va_get (D := D) (ci := 6) (v := .int t_head) (C := RX6) (T := TX6) (N := 12) hx hb hts in_X6 hown hK hP 0 rfl rfl 7 (by decide) (hts _ kf_X6_22) (fun _ h9 => h9) rfl dX6_takeSolution_32 ?_
    refine va_iald hx hb hK hP 7 1 rfl rfl (gd_in hm) dX6_takeSolution_35 ?_
    have hm := gd_go hm
    refine lv_iload_n hx hb dX6_takeSolution_36 rfl (lv_at hl 1 rfl) ?_
    obtain ⟨z1, hz1, hm⟩ := bd_at hm
    refine k_callV (As := [.int (pr_who t_head.toNatClampNeg), .int x0]) (rest := []) (wr := [(t, .inr (6, [.ref fa, .ref fr, .ref la, .ref t_value_a, .ref t_plan_a, .ref pr, .int t_planned, .int t_head, .int t_end, .int t_latestEntry, .int t_counting, .int t_solutions])), (fr, .inr (1, [.ref fr_row_a, .ref fr_count_a])), (fr_row_a, .inl (cI, 1440, .inl fr_row)), (fr_count_a, .inl (cI, 10, .inl fr_count)), (pr, .inr (4, [.ref pr_kind_a, .ref pr_place_a, .ref pr_who_a, .ref pr_width_a, .ref pr_term_a, .ref pr_start_a, .int pr_size, .int pr_rules, .ref pr_sort_a, .ref pr_arity_a, .ref pr_stratum_a, .ref pr_reach_a])), (pr_who_a, .inl (cI, 240, .inl pr_who))]) (ws1 := [(t, .inr (6, [.ref fa, .ref fr, .ref la, .ref t_value_a, .ref t_plan_a, .ref pr, .int t_planned, .int t_head, .int t_end, .int t_latestEntry, .int t_counting, .int t_solutions])), (fa, .inr (1, [.ref fa_row_a, .ref fa_count_a])), (fa_row_a, .inl (cI, 1440, .inl fa_row)), (fr, .inr (1, [.ref fr_row_a, .ref fr_count_a])), (fr_row_a, .inl (cI, 1440, .inl fr_row)), (fr_count_a, .inl (cI, 10, .inl fr_count)), (pr, .inr (4, [.ref pr_kind_a, .ref pr_place_a, .ref pr_who_a, .ref pr_width_a, .ref pr_term_a, .ref pr_start_a, .int pr_size, .int pr_rules, .ref pr_sort_a, .ref pr_arity_a, .ref pr_stratum_a, .ref pr_reach_a])), (pr_who_a, .inl (cI, 240, .inl pr_who))]) [1, 2] [0, 3, 4, 5, 6, 7] [0, 6, 7, 1, 2, 3, 4, 5] (K_FactSet_has l D cB cI cZ cJ fa fa_row_a fa_count_a fa_row (pr_who t_head.toNatClampNeg) x0 z1 hz1) mf_X1_has km_X6_126 hx hb hml hown hts hK hP hD hS hA hl.1 ⟨Nat.zero_le _, Nat.zero_le _⟩ dX6_takeSolution_37 rfl rfl (Nat.le_of_ble_eq_true rfl) ⟨⟨rfl, rfl⟩, Nat.le_of_ble_eq_true rfl, Nat.le_of_ble_eq_true rfl⟩ rfl rfl (by decide) rfl rfl rfl rfl (fun H locs hP hD hS => ?_)
    have hP : va_P D vwCl [(t, .inr (6, [.ref fa, .ref fr, .ref la, .ref t_value_a, .ref t_plan_a, .ref pr, .int t_planned, .int t_head, .int t_end, .int t_latestEntry, .int t_counting, .int t_solutions])), (fa, .inr (1, [.ref fa_row_a, .ref fa_count_a])), (fa_row_a, .inl (cI, 1440, .inl fa_row)), (fr, .inr (1, [.ref fr_row_a, .ref fr_count_a])), (fr_row_a, .inl (cI, 1440, .inl fr_row)), (fr_count_a, .inl (cI, 10, .inl fr_count)), (pr, .inr (4, [.ref pr_kind_a, .ref pr_place_a, .ref pr_who_a, .ref pr_width_a, .ref pr_term_a, .ref pr_start_a, .int pr_size, .int pr_rules, .ref pr_sort_a, .ref pr_arity_a, .ref pr_stratum_a, .ref pr_reach_a])), (pr_who_a, .inl (cI, 240, .inl pr_who))] H := hP
    have hD : va_D A [(t, .inr (6, [.ref fa, .ref fr, .ref la, .ref t_value_a, .ref t_plan_a, .ref pr, .int t_planned, .int t_head, .int t_end, .int t_latestEntry, .int t_counting, .int t_solutions])), (fa, .inr (1, [.ref fa_row_a, .ref fa_count_a])), (fa_row_a, .inl (cI, 1440, .inl fa_row)), (fr, .inr (1, [.ref fr_row_a, .ref fr_count_a])), (fr_row_a, .inl (cI, 1440, .inl fr_row)), (fr_count_a, .inl (cI, 10, .inl fr_count)), (pr, .inr (4, [.ref pr_kind_a, .ref pr_place_a, .ref pr_who_a, .ref pr_width_a, .ref pr_term_a, .ref pr_start_a, .int pr_size, .int pr_rules, .ref pr_sort_a, .ref pr_arity_a, .ref pr_stratum_a, .ref pr_reach_a])), (pr_who_a, .inl (cI, 240, .inl pr_who))] := hD
    refine lv_if_ne (tgt := 63) hx hb dX6_takeSolution_40 (by decide) (fun hc => ?_) (fun hc => ?_)
    · have hm := if_f hc hm
      have ho := Option.some.inj hm
      exact k_vret hx hb hr hlocks hK hP hD hS dX6_takeSolution_63 hQ rfl (by rw [← ho])
    · have hm := if_t hc hm
      refine lv_aload_n hx hb dX6_takeSolution_43 rfl (lv_at hl 0 rfl) ?_
      refine va_get (D := D) (ci := 6) (v := .ref fr) (C := RX6) (T := TX6) (N := 12) hx hb hts in_X6 hown hK hP 0 rfl rfl 1 (by decide) (hts _ kf_X6_46) (fun _ h9 => h9) rfl dX6_takeSolution_44 ?_
      refine lv_aload_n hx hb dX6_takeSolution_47 rfl (lv_at hl 0 rfl) ?_
      refine va_get (D := D) (ci := 6) (v := .ref pr) (C := RX6) (T := TX6) (N := 12) hx hb hts in_X6 hown hK hP 0 rfl rfl 5 (by decide) (hts _ kf_X6_38) (fun _ h9 => h9) rfl dX6_takeSolution_48 ?_
      refine va_get (D := D) (ci := 4) (v := .ref pr_who_a) (C := RX4) (T := TX4) (N := 12) hx hb hts in_X4 hown hK hP 6 rfl rfl 2 (by decide) (hts _ kf_X6_87) (fun _ h9 => h9) rfl dX6_takeSolution_51 ?_
      refine lv_aload_n hx hb dX6_takeSolution_54 rfl (lv_at hl 0 rfl) ?_
      refine va_get (D := D) (ci := 6) (v := .int t_head) (C := RX6) (T := TX6) (N := 12) hx hb hts in_X6 hown hK hP 0 rfl rfl 7 (by decide) (hts _ kf_X6_22) (fun _ h9 => h9) rfl dX6_takeSolution_55 ?_
      refine va_iald hx hb hK hP 7 1 rfl rfl (gd_in hm) dX6_takeSolution_58 ?_
      have hm := gd_go hm
      refine lv_iload_n hx hb dX6_takeSolution_59 rfl (lv_at hl 1 rfl) ?_
      obtain ⟨z2, hz2, hm⟩ := bd_at hm
      refine k_callV (As := [.int (pr_who t_head.toNatClampNeg), .int x0]) (rest := []) (wr := [(t, .inr (6, [.ref fa, .ref fr, .ref la, .ref t_value_a, .ref t_plan_a, .ref pr, .int t_planned, .int t_head, .int t_end, .int t_latestEntry, .int t_counting, .int t_solutions])), (fa, .inr (1, [.ref fa_row_a, .ref fa_count_a])), (fa_row_a, .inl (cI, 1440, .inl fa_row)), (pr, .inr (4, [.ref pr_kind_a, .ref pr_place_a, .ref pr_who_a, .ref pr_width_a, .ref pr_term_a, .ref pr_start_a, .int pr_size, .int pr_rules, .ref pr_sort_a, .ref pr_arity_a, .ref pr_stratum_a, .ref pr_reach_a])), (pr_who_a, .inl (cI, 240, .inl pr_who))]) (ws1 := [(t, .inr (6, [.ref fa, .ref fr, .ref la, .ref t_value_a, .ref t_plan_a, .ref pr, .int t_planned, .int t_head, .int t_end, .int t_latestEntry, .int t_counting, .int t_solutions])), (fa, .inr (1, [.ref fa_row_a, .ref fa_count_a])), (fa_row_a, .inl (cI, 1440, .inl fa_row)), (fr, .inr (1, [.ref fr_row_a, .ref fr_count_a])), (fr_row_a, .inl (cI, 1440, .inl z2.1)), (fr_count_a, .inl (cI, 10, .inl z2.2)), (pr, .inr (4, [.ref pr_kind_a, .ref pr_place_a, .ref pr_who_a, .ref pr_width_a, .ref pr_term_a, .ref pr_start_a, .int pr_size, .int pr_rules, .ref pr_sort_a, .ref pr_arity_a, .ref pr_stratum_a, .ref pr_reach_a])), (pr_who_a, .inl (cI, 240, .inl pr_who))]) [3, 4, 5] [0, 1, 2, 6, 7] [0, 1, 2, 5, 6, 7, 3, 4] (K_FactSet_add l D cB cI cZ cJ fr fr_row_a fr_count_a fr_row fr_count (pr_who t_head.toNatClampNeg) x0 z2 hz2) mf_X1_add km_X6_133 hx hb hml hown hts hK hP hD hS hA hl.1 ⟨Nat.zero_le _, Nat.zero_le _⟩ dX6_takeSolution_60 rfl rfl (Nat.le_of_ble_eq_true rfl) ⟨⟨rfl, rfl⟩, Nat.le_of_ble_eq_true rfl, Nat.le_of_ble_eq_true rfl⟩ rfl rfl (by decide) rfl rfl rfl rfl (fun H locs hP hD hS => ?_)
      have hP : va_P D vwCl [(t, .inr (6, [.ref fa, .ref fr, .ref la, .ref t_value_a, .ref t_plan_a, .ref pr, .int t_planned, .int t_head, .int t_end, .int t_latestEntry, .int t_counting, .int t_solutions])), (fa, .inr (1, [.ref fa_row_a, .ref fa_count_a])), (fa_row_a, .inl (cI, 1440, .inl fa_row)), (fr, .inr (1, [.ref fr_row_a, .ref fr_count_a])), (fr_row_a, .inl (cI, 1440, .inl z2.1)), (fr_count_a, .inl (cI, 10, .inl z2.2)), (pr, .inr (4, [.ref pr_kind_a, .ref pr_place_a, .ref pr_who_a, .ref pr_width_a, .ref pr_term_a, .ref pr_start_a, .int pr_size, .int pr_rules, .ref pr_sort_a, .ref pr_arity_a, .ref pr_stratum_a, .ref pr_reach_a])), (pr_who_a, .inl (cI, 240, .inl pr_who))] H := hP
      have hD : va_D A [(t, .inr (6, [.ref fa, .ref fr, .ref la, .ref t_value_a, .ref t_plan_a, .ref pr, .int t_planned, .int t_head, .int t_end, .int t_latestEntry, .int t_counting, .int t_solutions])), (fa, .inr (1, [.ref fa_row_a, .ref fa_count_a])), (fa_row_a, .inl (cI, 1440, .inl fa_row)), (fr, .inr (1, [.ref fr_row_a, .ref fr_count_a])), (fr_row_a, .inl (cI, 1440, .inl z2.1)), (fr_count_a, .inl (cI, 10, .inl z2.2)), (pr, .inr (4, [.ref pr_kind_a, .ref pr_place_a, .ref pr_who_a, .ref pr_width_a, .ref pr_term_a, .ref pr_start_a, .int pr_size, .int pr_rules, .ref pr_sort_a, .ref pr_arity_a, .ref pr_stratum_a, .ref pr_reach_a])), (pr_who_a, .inl (cI, 240, .inl pr_who))] := hD
      have ho := Option.some.inj hm
      exact k_vret hx hb hr hlocks hK hP hD hS dX6_takeSolution_63 hQ rfl (by rw [← ho])
  · have hm := if_f hc hm
    refine lv_aload_n hx hb dX6_takeSolution_7 rfl (lv_at hl 0 rfl) ?_
    refine lv_dup hx hb dX6_takeSolution_8 rfl ?_
    refine va_get (D := D) (ci := 6) (v := .int t_solutions) (C := RX6) (T := TX6) (N := 12) hx hb hts in_X6 hown hK hP 0 rfl rfl 11 (by decide) (hts _ kf_X6_35) (fun _ h9 => h9) rfl dX6_takeSolution_9 ?_
    refine lv_iconst (v := (1 : Int32)) hx hb dX6_takeSolution_12 (by decide) ?_
    refine lv_iadd hx hb dX6_takeSolution_13 ?_
    refine lv_topi (fun v3 ev3 => ?_)
    have hm := lt_at ev3 hm
    refine va_put (D := D) (ci := 6) (v := .int v3) (ty := .int) (C := RX6) (T := TX6) (N := 12) hx hb hts in_X6 tyX6 tyX6_ok nmX6 hown hK hP hD hS 0 rfl rfl 11 (by decide) (hts _ kf_X6_35) (fun _ h9 => h9) rfl (by decide +kernel) rfl rfl (Nat.le_of_ble_eq_true rfl) dX6_takeSolution_14 (fun H locs hP hD hS => ?_)
    have hP : va_P D vwCl [(t, .inr (6, [.ref fa, .ref fr, .ref la, .ref t_value_a, .ref t_plan_a, .ref pr, .int t_planned, .int t_head, .int t_end, .int t_latestEntry, .int t_counting, .int v3])), (fa, .inr (1, [.ref fa_row_a, .ref fa_count_a])), (fa_row_a, .inl (cI, 1440, .inl fa_row)), (fr, .inr (1, [.ref fr_row_a, .ref fr_count_a])), (fr_row_a, .inl (cI, 1440, .inl fr_row)), (fr_count_a, .inl (cI, 10, .inl fr_count)), (pr, .inr (4, [.ref pr_kind_a, .ref pr_place_a, .ref pr_who_a, .ref pr_width_a, .ref pr_term_a, .ref pr_start_a, .int pr_size, .int pr_rules, .ref pr_sort_a, .ref pr_arity_a, .ref pr_stratum_a, .ref pr_reach_a])), (pr_who_a, .inl (cI, 240, .inl pr_who))] H := hP
    have hD : va_D A [(t, .inr (6, [.ref fa, .ref fr, .ref la, .ref t_value_a, .ref t_plan_a, .ref pr, .int t_planned, .int t_head, .int t_end, .int t_latestEntry, .int t_counting, .int v3])), (fa, .inr (1, [.ref fa_row_a, .ref fa_count_a])), (fa_row_a, .inl (cI, 1440, .inl fa_row)), (fr, .inr (1, [.ref fr_row_a, .ref fr_count_a])), (fr_row_a, .inl (cI, 1440, .inl fr_row)), (fr_count_a, .inl (cI, 10, .inl fr_count)), (pr, .inr (4, [.ref pr_kind_a, .ref pr_place_a, .ref pr_who_a, .ref pr_width_a, .ref pr_term_a, .ref pr_start_a, .int pr_size, .int pr_rules, .ref pr_sort_a, .ref pr_arity_a, .ref pr_stratum_a, .ref pr_reach_a])), (pr_who_a, .inl (cI, 240, .inl pr_who))] := hD
    refine lv_goto (tgt := 63) hx hb dX6_takeSolution_17 (by decide) ?_
    have ho := Option.some.inj hm
    exact k_vret hx hb hr hlocks hK hP hD hS dX6_takeSolution_63 hQ rfl (by rw [← ho])
