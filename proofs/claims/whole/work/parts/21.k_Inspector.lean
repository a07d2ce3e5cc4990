theorem kf_X2_15 : Cond.fieldLink RX2 15 "RuleHall$Inspector" "place" "I" ∈ kT := k_in 117 (by decide +kernel)
theorem kf_X2_27 : Cond.fieldLink RX2 27 "RuleHall$Program" "place" "[I" ∈ kT := k_in 168 (by decide +kernel)
theorem kf_X2_30 : Cond.fieldLink RX2 30 "RuleHall$Program" "rules" "I" ∈ kT := k_in 186 (by decide +kernel)
theorem kf_X2_37 : Cond.fieldLink RX2 37 "RuleHall$Program" "start" "[I" ∈ kT := k_in 181 (by decide +kernel)
theorem kf_X2_58 : Cond.fieldLink RX2 58 "RuleHall$Program" "width" "[I" ∈ kT := k_in 174 (by decide +kernel)
theorem kf_X2_61 : Cond.fieldLink RX2 61 "RuleHall$Program" "arity" "[I" ∈ kT := k_in 191 (by decide +kernel)
theorem kf_X2_64 : Cond.fieldLink RX2 64 "RuleHall$Program" "who" "[I" ∈ kT := k_in 172 (by decide +kernel)
theorem kf_X2_76 : Cond.fieldLink RX2 76 "RuleHall$Program" "kind" "[I" ∈ kT := k_in 166 (by decide +kernel)
theorem kf_X2_79 : Cond.fieldLink RX2 79 "RuleHall$Program" "reach" "[I" ∈ kT := k_in 196 (by decide +kernel)
theorem kf_X2_9 : Cond.fieldLink RX2 9 "RuleHall$Inspector" "found" "I" ∈ kT := k_in 116 (by decide +kernel)
theorem km_X2_18 : Cond.methodLink RX2 18 yX4_describePredicates ∈ kT := k_in 701 (by decide +kernel)
theorem km_X2_23 : Cond.methodLink RX2 23 yX2_findFirst ∈ kT := k_in 717 (by decide +kernel)
theorem km_X2_33 : Cond.methodLink RX2 33 yX2_findInRule ∈ kT := k_in 720 (by decide +kernel)
theorem km_X2_40 : Cond.methodLink RX2 40 yX2_findOtherArity ∈ kT := k_in 723 (by decide +kernel)
theorem km_X2_44 : Cond.methodLink RX2 44 yX2_isTooLarge ∈ kT := k_in 727 (by decide +kernel)
theorem km_X2_48 : Cond.methodLink RX2 48 yX2_hasUnboundVariable ∈ kT := k_in 732 (by decide +kernel)
theorem km_X2_51 : Cond.methodLink RX2 51 yX2_findDenialOfItself ∈ kT := k_in 735 (by decide +kernel)
theorem km_X2_54 : Cond.methodLink RX2 54 yX4_isAtom ∈ kT := k_in 726 (by decide +kernel)
theorem km_X2_67 : Cond.methodLink RX2 67 yX4_variables ∈ kT := k_in 730 (by decide +kernel)
theorem km_X2_71 : Cond.methodLink RX2 71 yJ6_bitCount_0f7a4 ∈ kT := k_in 731 (by decide +kernel)
theorem ms_X2_findDenialOfItself : MS yX2_findDenialOfItself cX2_findDenialOfItself 4 (some .int) 2 := ⟨k_in 736 (by decide +kernel), k_in 72 (by decide +kernel), k_in 737 (by decide +kernel), ⟨by decide +kernel, by decide +kernel, by decide +kernel⟩⟩
theorem ms_X2_findFirst : MS yX2_findFirst cX2_findFirst 4 (some .int) 2 := ⟨k_in 718 (by decide +kernel), k_in 72 (by decide +kernel), k_in 719 (by decide +kernel), ⟨by decide +kernel, by decide +kernel, by decide +kernel⟩⟩
theorem ms_X2_findInRule : MS yX2_findInRule cX2_findInRule 4 (some .int) 3 := ⟨k_in 721 (by decide +kernel), k_in 72 (by decide +kernel), k_in 722 (by decide +kernel), ⟨by decide +kernel, by decide +kernel, by decide +kernel⟩⟩
theorem ms_X2_findOtherArity : MS yX2_findOtherArity cX2_findOtherArity 3 (some .int) 2 := ⟨k_in 724 (by decide +kernel), k_in 72 (by decide +kernel), k_in 725 (by decide +kernel), ⟨by decide +kernel, by decide +kernel, by decide +kernel⟩⟩
theorem ms_X2_hasUnboundVariable : MS yX2_hasUnboundVariable cX2_hasUnboundVariable 5 (some .boolean) 2 := ⟨k_in 733 (by decide +kernel), k_in 72 (by decide +kernel), k_in 734 (by decide +kernel), ⟨by decide +kernel, by decide +kernel, by decide +kernel⟩⟩
theorem ms_X2_isTooLarge : MS yX2_isTooLarge cX2_isTooLarge 4 (some .boolean) 2 := ⟨k_in 728 (by decide +kernel), k_in 72 (by decide +kernel), k_in 729 (by decide +kernel), ⟨by decide +kernel, by decide +kernel, by decide +kernel⟩⟩
theorem mf_X4_describePredicates : MF yX4_describePredicates cX4_describePredicates 2 none 0 := ⟨k_in 702 (by decide +kernel), k_in 703 (by decide +kernel), k_in 75 (by decide +kernel), k_in 704 (by decide +kernel), ⟨by decide +kernel, by decide +kernel, by decide +kernel⟩⟩
theorem mf_X4_variables : MF yX4_variables cX4_variables 5 (some .int) 1 := ⟨k_in 480 (by decide +kernel), k_in 481 (by decide +kernel), k_in 75 (by decide +kernel), k_in 482 (by decide +kernel), ⟨by decide +kernel, by decide +kernel, by decide +kernel⟩⟩
noncomputable def M_Inspector_found (t_found : Int32) : Option ((Int32)) := some t_found
set_option maxRecDepth 100000 in
set_option maxHeartbeats 4000000 in
theorem K_Inspector_found (l : Launch) (D : va_G) (cB cI cZ cJ : ClassId) (t : Nat) (t_found : Int32) (t_place : Int32) (out : (Int32)) (hm : M_Inspector_found t_found = some out) : KC l yX2_found cX2_found 1 (some .int) { frames := 0, cells := 0, slots := 0, locals := 0 } D (kTy cB cI cZ cJ) [.ref t] [(t, .inr (2, [.int t_found, .int t_place]))] (some (.int out)) [(t, .inr (2, [.int t_found, .int t_place]))] := by
  refine KC.of (by decide +kernel) (Nat.le_of_ble_eq_true rfl) ?_
  intro p e s m below meth c A ls args Q hQ CX hA hK hP hD hl
  obtain ⟨hx, hb, hr, hml, hown, hts, hlocks⟩ := CX
  have hown : s.vm.findClass RX2 = some m.cls := hown
  have hS : va_S A s.heap s.heap [] := va_S.rf
  have hl : lv_has ls 1 [(0, .ref t)] := hl
  unfold M_Inspector_found at hm
  obtain ⟨H, eH⟩ : ∃ H, H = s.heap := ⟨_, rfl⟩
  obtain ⟨locs, el⟩ : ∃ x : List Loc, x = [] := ⟨_, rfl⟩
  have hP : va_P D vwCl [(t, .inr (2, [.int t_found, .int t_place]))] H := eH ▸ hP
  have hS : va_S A s.heap H locs := by rw [eH, el]; exact hS
  suffices hW : W p l e { frames := 0, cells := 0, slots := 0, locals := 0 } s m args below meth c H locs 0 0 Q (F0 m 0 ls []) by rw [eH, el] at hW; exact hW
  clear eH el
  refine lv_aload_n hx hb dX2_found_0 rfl (lv_at hl 0 rfl) ?_
  refine va_get (D := D) (ci := 2) (v := .int t_found) (C := RX2) (T := TX2) (N := 2) hx hb hts in_X2 hown hK hP 0 rfl rfl 0 (by decide) (hts _ kf_X2_9) (fun _ h9 => h9) rfl dX2_found_1 ?_
  have ho := Option.some.inj hm
  exact k_iret hx hb hr hlocks hK hP hD hS dX2_found_4 hQ (by rw [← ho]) rfl
noncomputable def M_Inspector_place (t_place : Int32) : Option ((Int32)) := some t_place
set_option maxRecDepth 100000 in
set_option maxHeartbeats 4000000 in
theorem K_Inspector_place (l : Launch) (D : va_G) (cB cI cZ cJ : ClassId) (t : Nat) (t_found : Int32) (t_place : Int32) (out : (Int32)) (hm : M_Inspector_place t_place = some out) : KC l yX2_place cX2_place 1 (some .int) { frames := 0, cells := 0, slots := 0, locals := 0 } D (kTy cB cI cZ cJ) [.ref t] [(t, .inr (2, [.int t_found, .int t_place]))] (some (.int out)) [(t, .inr (2, [.int t_found, .int t_place]))] := by
  refine KC.of (by decide +kernel) (Nat.le_of_ble_eq_true rfl) ?_
  intro p e s m below meth c A ls args Q hQ CX hA hK hP hD hl
  obtain ⟨hx, hb, hr, hml, hown, hts, hlocks⟩ := CX
  have hown : s.vm.findClass RX2 = some m.cls := hown
  have hS : va_S A s.heap s.heap [] := va_S.rf
  have hl : lv_has ls 1 [(0, .ref t)] := hl
  unfold M_Inspector_place at hm
  obtain ⟨H, eH⟩ : ∃ H, H = s.heap := ⟨_, rfl⟩
  obtain ⟨locs, el⟩ : ∃ x : List Loc, x = [] := ⟨_, rfl⟩
  have hP : va_P D vwCl [(t, .inr (2, [.int t_found, .int t_place]))] H := eH ▸ hP
  have hS : va_S A s.heap H locs := by rw [eH, el]; exact hS
  suffices hW : W p l e { frames := 0, cells := 0, slots := 0, locals := 0 } s m args below meth c H locs 0 0 Q (F0 m 0 ls []) by rw [eH, el] at hW; exact hW
  clear eH el
  refine lv_aload_n hx hb dX2_place_0 rfl (lv_at hl 0 rfl) ?_
  refine va_get (D := D) (ci := 2) (v := .int t_place) (C := RX2) (T := TX2) (N := 2) hx hb hts in_X2 hown hK hP 0 rfl rfl 1 (by decide) (hts _ kf_X2_15) (fun _ h9 => h9) rfl dX2_place_1 ?_
  have ho := Option.some.inj hm
  exact k_iret hx hb hr hlocks hK hP hD hS dX2_place_4 hQ (by rw [← ho]) rfl
noncomputable def M_Inspector_findOtherArity_L7 (F : Nat) (o_kind : Nat → Int32) (o_who : Nat → Int32) (o_width : Nat → Int32) (o_start : Nat → Int32) (o_arity : Nat → Int32) (w1 : Int32) : Nat → Int32 → Option ((Unit) ⊕ ((Int32)))
  | 0, _ => none
  | n + 1, y2 => gd_ (w1 + (1 : Int32)) 241 <| lt_ ((o_start (w1 + (1 : Int32)).toNatClampNeg)) fun v2 => if v2 ≤ y2 then (some (.inl ())) else (bd_ (M_Program_isAtom o_kind y2) fun z3 => if z3 = 0 then (lt_ (y2 + (1 : Int32)) fun v4 => M_Inspector_findOtherArity_L7 F o_kind o_who o_width o_start o_arity w1 n v4) else (gd_ y2 240 <| gd_ y2 240 <| gd_ (o_who y2.toNatClampNeg) 10 <| lt_ ((o_arity (o_who y2.toNatClampNeg).toNatClampNeg)) fun v5 => if (o_width y2.toNatClampNeg) = v5 then (lt_ (y2 + (1 : Int32)) fun v6 => M_Inspector_findOtherArity_L7 F o_kind o_who o_width o_start o_arity w1 n v6) else (some (.inr y2))))
noncomputable def M_Inspector_findOtherArity (F : Nat) (o_kind : Nat → Int32) (o_who : Nat → Int32) (o_width : Nat → Int32) (o_start : Nat → Int32) (o_arity : Nat → Int32) (x1 : Int32) : Option ((Int32)) := gd_ x1 241 <| lt_ ((o_start x1.toNatClampNeg)) fun v1 => bd_ (M_Inspector_findOtherArity_L7 F o_kind o_who o_width o_start o_arity x1 F v1) fun z7 => cs_ z7 (fun q8 => some (-1 : Int32)) (fun o => some o)
set_option maxRecDepth 100000 in
set_option maxHeartbeats 4000000 in
theorem K_Inspector_findOtherArity (l : Launch) (D : va_G) (cB cI cZ cJ : ClassId) (o : Nat) (o_kind_a : Nat) (o_place_a : Nat) (o_who_a : Nat) (o_width_a : Nat) (o_term_a : Nat) (o_start_a : Nat) (o_sort_a : Nat) (o_arity_a : Nat) (o_stratum_a : Nat) (o_reach_a : Nat) (o_size : Int32) (o_rules : Int32) (o_kind : Nat → Int32) (o_who : Nat → Int32) (o_width : Nat → Int32) (o_start : Nat → Int32) (o_arity : Nat → Int32) (x1 : Int32) (F : Nat) (out : (Int32)) (hm : M_Inspector_findOtherArity F o_kind o_who o_width o_start o_arity x1 = some out) : KC l yX2_findOtherArity cX2_findOtherArity 3 (some .int) { frames := 1, cells := 0, slots := 0, locals := 21 } D (kTy cB cI cZ cJ) [.ref o, .int x1] [(o, .inr (4, [.ref o_kind_a, .ref o_place_a, .ref o_who_a, .ref o_width_a, .ref o_term_a, .ref o_start_a, .int o_size, .int o_rules, .ref o_sort_a, .ref o_arity_a, .ref o_stratum_a, .ref o_reach_a])), (o_kind_a, .inl (cI, 240, .inl o_kind)), (o_who_a, .inl (cI, 240, .inl o_who)), (o_width_a, .inl (cI, 240, .inl o_width)), (o_start_a, .inl (cI, 241, .inl o_start)), (o_arity_a, .inl (cI, 10, .inl o_arity))] (some (.int out)) [(o, .inr (4, [.ref o_kind_a, .ref o_place_a, .ref o_who_a, .ref o_width_a, .ref o_term_a, .ref o_start_a, .int o_size, .int o_rules, .ref o_sort_a, .ref o_arity_a, .ref o_stratum_a, .ref o_reach_a])), (o_kind_a, .inl (cI, 240, .inl o_kind)), (o_who_a, .inl (cI, 240, .inl o_who)), (o_width_a, .inl (cI, 240, .inl o_width)), (o_start_a, .inl (cI, 241, .inl o_start)), (o_arity_a, .inl (cI, 10, .inl o_arity))] := by
  refine KC.of (by decide +kernel) (Nat.le_of_ble_eq_true rfl) ?_
  intro p e s m below meth c A ls args Q hQ CX hA hK hP hD hl
  obtain ⟨hx, hb, hr, hml, hown, hts, hlocks⟩ := CX
  have hown : s.vm.findClass RX2 = some m.cls := hown
  have hS : va_S A s.heap s.heap [] := va_S.rf
  have hl : lv_has ls 3 [(0, .ref o), (1, .int x1)] := hl
  have L7 : ∀ (w1 : Int32) (n : Nat) (y2 : Int32) (z : ((Unit) ⊕ ((Int32)))), M_Inspector_findOtherArity_L7 F o_kind o_who o_width o_start o_arity w1 n y2 = some z →
      (∀ (q : Unit) (H : Heap) (locs : List Loc) (ls : Array Slot), z = .inl q → va_P D vwCl [(o, .inr (4, [.ref o_kind_a, .ref o_place_a, .ref o_who_a, .ref o_width_a, .ref o_term_a, .ref o_start_a, .int o_size, .int o_rules, .ref o_sort_a, .ref o_arity_a, .ref o_stratum_a, .ref o_reach_a])), (o_kind_a, .inl (cI, 240, .inl o_kind)), (o_who_a, .inl (cI, 240, .inl o_who)), (o_width_a, .inl (cI, 240, .inl o_width)), (o_start_a, .inl (cI, 241, .inl o_start)), (o_arity_a, .inl (cI, 10, .inl o_arity))] H → va_D A [(o, .inr (4, [.ref o_kind_a, .ref o_place_a, .ref o_who_a, .ref o_width_a, .ref o_term_a, .ref o_start_a, .int o_size, .int o_rules, .ref o_sort_a, .ref o_arity_a, .ref o_stratum_a, .ref o_reach_a])), (o_kind_a, .inl (cI, 240, .inl o_kind)), (o_who_a, .inl (cI, 240, .inl o_who)), (o_width_a, .inl (cI, 240, .inl o_width)), (o_start_a, .inl (cI, 241, .inl o_start)), (o_arity_a, .inl (cI, 10, .inl o_arity))] → va_S A s.heap H locs → lv_has ls 3 [] → W p l e { frames := 1, cells := 0, slots := 0, locals := 21 } s m args below meth c H locs 0 0 Q (F0 m 55 ls [])) →
      (∀ o, z = .inr o → o = out) →
      ∀ (H : Heap) (locs : List Loc) (ls : Array Slot), va_P D vwCl [(o, .inr (4, [.ref o_kind_a, .ref o_place_a, .ref o_who_a, .ref o_width_a, .ref o_term_a, .ref o_start_a, .int o_size, .int o_rules, .ref o_sort_a, .ref o_arity_a, .ref o_stratum_a, .ref o_reach_a])), (o_kind_a, .inl (cI, 240, .inl o_kind)), (o_who_a, .inl (cI, 240, .inl o_who)), (o_width_a, .inl (cI, 240, .inl o_width)), (o_start_a, .inl (cI, 241, .inl o_start)), (o_arity_a, .inl (cI, 10, .inl o_arity))] H → va_D A [(o, .inr (4, [.ref o_kind_a, .ref o_place_a, .ref o_who_a, .ref o_width_a, .ref o_term_a, .ref o_start_a, .int o_size, .int o_rules, .ref o_sort_a, .ref o_arity_a, .ref o_stratum_a, .ref o_reach_a])), (o_kind_a, .inl (cI, 240, .inl o_kind)), (o_who_a, .inl (cI, 240, .inl o_who)), (o_width_a, .inl (cI, 240, .inl o_width)), (o_start_a, .inl (cI, 241, .inl o_start)), (o_arity_a, .inl (cI, 10, .inl o_arity))] → va_S A s.heap H locs → lv_has ls 3 [(2, .int y2), (0, .ref o), (1, .int w1)] → W p l e { frames := 1, cells := 0, slots := 0, locals := 21 } s m args below meth c H locs 0 0 Q (F0 m 7 ls []) := by
    intro w1 n
    induction n with
    | zero => intro y2 z hm; unfold M_Inspector_findOtherArity_L7 at hm; cases hm
    | succ n ih =>
      intro y2 z hm hE hR H locs ls hP hD hS hl
      unfold M_Inspector_findOtherArity_L7 at hm
      refine lv_iload_n hx hb dX2_findOtherArity_7 rfl (lv_at hl 0 rfl) ?_
      refine lv_aload_n hx hb dX2_findOtherArity_8 rfl (lv_at hl 1 rfl) ?_
      refine va_get (D := D) (ci := 4) (v := .ref o_start_a) (C := RX4) (T := TX4) (N := 12) hx hb hts in_X4 hown hK hP 0 rfl rfl 5 (by decide) (hts _ kf_X2_37) (fun _ h9 => h9) rfl dX2_findOtherArity_9 ?_
      refine lv_iload_n hx hb dX2_findOtherArity_12 rfl (lv_at hl 2 rfl) ?_
      refine lv_iconst (v := (1 : Int32)) hx hb dX2_findOtherArity_13 (by decide) ?_
      refine lv_iadd hx hb dX2_findOtherArity_14 ?_
      refine va_iald hx hb hK hP 4 1 rfl rfl (gd_in hm) dX2_findOtherArity_15 ?_
      have hm := gd_go hm
      refine lv_topi (fun v2 ev2 => ?_)
      have hm := lt_at ev2 hm
      refine lv_icmp_ge (tgt := 55) hx hb dX2_findOtherArity_16 (by decide) (fun hc => ?_) (fun hc => ?_)
      · have hm := if_t hc hm
        exact hE _ H locs ls (Option.some.inj hm).symm hP hD hS (lv_sub hl [] rfl)
      · have hm := if_f hc hm
        refine lv_aload_n hx hb dX2_findOtherArity_19 rfl (lv_at hl 1 rfl) ?_
        refine lv_iload_n hx hb dX2_findOtherArity_20 rfl (lv_at hl 0 rfl) ?_
        obtain ⟨z3, hz3, hm⟩ := bd_at hm
        refine k_callV (As := [.int y2]) (rest := []) (wr := [(o_who_a, .inl (cI, 240, .inl o_who)), (o_width_a, .inl (cI, 240, .inl o_width)), (o_start_a, .inl (cI, 241, .inl o_start)), (o_arity_a, .inl (cI, 10, .inl o_arity))]) (ws1 := [(o, .inr (4, [.ref o_kind_a, .ref o_place_a, .ref o_who_a, .ref o_width_a, .ref o_term_a, .ref o_start_a, .int o_size, .int o_rules, .ref o_sort_a, .ref o_arity_a, .ref o_stratum_a, .ref o_reach_a])), (o_kind_a, .inl (cI, 240, .inl o_kind)), (o_who_a, .inl (cI, 240, .inl o_who)), (o_width_a, .inl (cI, 240, .inl o_width)), (o_start_a, .inl (cI, 241, .inl o_start)), (o_arity_a, .inl (cI, 10, .inl o_arity))]) [0, 1] [2, 3, 4, 5] [4, 5, 0, 1, 2, 3] (K_Program_isAtom l D cB cI cZ cJ o o_kind_a o_place_a o_who_a o_width_a o_term_a o_start_a o_sort_a o_arity_a o_stratum_a o_reach_a o_size o_rules o_kind y2 z3 hz3) mf_X4_isAtom km_X2_54 hx hb hml hown hts hK hP hD hS hA hl.1 ⟨Nat.zero_le _, Nat.zero_le _⟩ dX2_findOtherArity_21 rfl rfl (Nat.le_of_ble_eq_true rfl) ⟨⟨rfl, rfl⟩, Nat.le_of_ble_eq_true rfl, Nat.le_of_ble_eq_true rfl⟩ rfl rfl (by decide) rfl rfl rfl rfl (fun H locs hP hD hS => ?_)
        have hP : va_P D vwCl [(o, .inr (4, [.ref o_kind_a, .ref o_place_a, .ref o_who_a, .ref o_width_a, .ref o_term_a, .ref o_start_a, .int o_size, .int o_rules, .ref o_sort_a, .ref o_arity_a, .ref o_stratum_a, .ref o_reach_a])), (o_kind_a, .inl (cI, 240, .inl o_kind)), (o_who_a, .inl (cI, 240, .inl o_who)), (o_width_a, .inl (cI, 240, .inl o_width)), (o_start_a, .inl (cI, 241, .inl o_start)), (o_arity_a, .inl (cI, 10, .inl o_arity))] H := hP
        have hD : va_D A [(o, .inr (4, [.ref o_kind_a, .ref o_place_a, .ref o_who_a, .ref o_width_a, .ref o_term_a, .ref o_start_a, .int o_size, .int o_rules, .ref o_sort_a, .ref o_arity_a, .ref o_stratum_a, .ref o_reach_a])), (o_kind_a, .inl (cI, 240, .inl o_kind)), (o_who_a, .inl (cI, 240, .inl o_who)), (o_width_a, .inl (cI, 240, .inl o_width)), (o_start_a, .inl (cI, 241, .inl o_start)), (o_arity_a, .inl (cI, 10, .inl o_arity))] := hD
        refine lv_if_eq (tgt := 49) hx hb dX2_findOtherArity_24 (by decide) (fun hc => ?_) (fun hc => ?_)
        · have hm := if_t hc hm
          obtain ⟨v4, ev4⟩ : ∃ y : Int32, y = y2 + (1 : Int32) := ⟨_, rfl⟩
          have hm := lt_at ev4 hm
          refine lv_iinc (v := v4) (lv' := [(2, .int v4), (0, .ref o), (1, .int w1)]) hx hb dX2_findOtherArity_49 hl (k := 0) rfl (by rw [ev4]; rfl) (by decide) rfl (fun ls hl => ?_)
          refine lv_goto (tgt := 7) hx hb dX2_findOtherArity_52 (by decide) ?_
          exact ih v4 z hm hE hR H locs ls hP hD hS (lv_sub hl [0, 1, 2] rfl)
        · have hm := if_f hc hm
          refine lv_aload_n hx hb dX2_findOtherArity_27 rfl (lv_at hl 1 rfl) ?_
          refine va_get (D := D) (ci := 4) (v := .ref o_width_a) (C := RX4) (T := TX4) (N := 12) hx hb hts in_X4 hown hK hP 0 rfl rfl 3 (by decide) (hts _ kf_X2_58) (fun _ h9 => h9) rfl dX2_findOtherArity_28 ?_
          refine lv_iload_n hx hb dX2_findOtherArity_31 rfl (lv_at hl 0 rfl) ?_
          refine va_iald hx hb hK hP 3 1 rfl rfl (gd_in hm) dX2_findOtherArity_32 ?_
          have hm := gd_go hm
          refine lv_aload_n hx hb dX2_findOtherArity_33 rfl (lv_at hl 1 rfl) ?_
          refine va_get (D := D) (ci := 4) (v := .ref o_arity_a) (C := RX4) (T := TX4) (N := 12) hx hb hts in_X4 hown hK hP 0 rfl rfl 9 (by decide) (hts _ kf_X2_61) (fun _ h9 => h9) rfl dX2_findOtherArity_34 ?_
          refine lv_aload_n hx hb dX2_findOtherArity_37 rfl (lv_at hl 1 rfl) ?_
          refine va_get (D := D) (ci := 4) (v := .ref o_who_a) (C := RX4) (T := TX4) (N := 12) hx hb hts in_X4 hown hK hP 0 rfl rfl 2 (by decide) (hts _ kf_X2_64) (fun _ h9 => h9) rfl dX2_findOtherArity_38 ?_
          refine lv_iload_n hx hb dX2_findOtherArity_41 rfl (lv_at hl 0 rfl) ?_
          refine va_iald hx hb hK hP 2 1 rfl rfl (gd_in hm) dX2_findOtherArity_42 ?_
          have hm := gd_go hm
          refine va_iald hx hb hK hP 5 1 rfl rfl (gd_in hm) dX2_findOtherArity_43 ?_
          have hm := gd_go hm
          refine lv_topi (fun v5 ev5 => ?_)
          have hm := lt_at ev5 hm
          refine lv_icmp_eq (tgt := 49) hx hb dX2_findOtherArity_44 (by decide) (fun hc => ?_) (fun hc => ?_)
          · have hm := if_t hc hm
            obtain ⟨v6, ev6⟩ : ∃ y : Int32, y = y2 + (1 : Int32) := ⟨_, rfl⟩
            have hm := lt_at ev6 hm
            refine lv_iinc (v := v6) (lv' := [(2, .int v6), (0, .ref o), (1, .int w1)]) hx hb dX2_findOtherArity_49 hl (k := 0) rfl (by rw [ev6]; rfl) (by decide) rfl (fun ls hl => ?_)
            refine lv_goto (tgt := 7) hx hb dX2_findOtherArity_52 (by decide) ?_
            exact ih v6 z hm hE hR H locs ls hP hD hS (lv_sub hl [0, 1, 2] rfl)
          · have hm := if_f hc hm
            refine lv_iload_n hx hb dX2_findOtherArity_47 rfl (lv_at hl 0 rfl) ?_
            have ho := hR _ (Option.some.inj hm).symm
            exact k_iret hx hb hr hlocks hK hP hD hS dX2_findOtherArity_48 hQ (by rw [← ho]) rfl
  unfold M_Inspector_findOtherArity at hm
  obtain ⟨H, eH⟩ : ∃ H, H = s.heap := ⟨_, rfl⟩
  obtain ⟨locs, el⟩ : ∃ x : List Loc, x = [] := ⟨_, rfl⟩
  have hP : va_P D vwCl [(o, .inr (4, [.ref o_kind_a, .ref o_place_a, .ref o_who_a, .ref o_width_a, .ref o_term_a, .ref o_start_a, .int o_size, .int o_rules, .ref o_sort_a, .ref o_arity_a, .ref o_stratum_a, .ref o_reach_a])), (o_kind_a, .inl (cI, 240, .inl o_kind)), (o_who_a, .inl (cI, 240, .inl o_who)), (o_width_a, .inl (cI, 240, .inl o_width)), (o_start_a, .inl (cI, 241, .inl o_start)), (o_arity_a, .inl (cI, 10, .inl o_arity))] H := eH ▸ hP
  have hS : va_S A s.heap H locs := by rw [eH, el]; exact hS
  suffices hW : W p l e { frames := 1, cells := 0, slots := 0, locals := 21 } s m args below meth c H locs 0 0 Q (F0 m 0 ls []) by rw [eH, el] at hW; exact hW
  clear eH el
  refine lv_aload_n hx hb dX2_findOtherArity_0 rfl (lv_at hl 0 rfl) ?_
  refine va_get (D := D) (ci := 4) (v := .ref o_start_a) (C := RX4) (T := TX4) (N := 12) hx hb hts in_X4 hown hK hP 0 rfl rfl 5 (by decide) (hts _ kf_X2_37) (fun _ h9 => h9) rfl dX2_findOtherArity_1 ?_
  refine lv_iload_n hx hb dX2_findOtherArity_4 rfl (lv_at hl 1 rfl) ?_
  refine va_iald hx hb hK hP 4 1 rfl rfl (gd_in hm) dX2_findOtherArity_5 ?_
  have hm := gd_go hm
  refine lv_topi (fun v1 ev1 => ?_)
  have hm := lt_at ev1 hm
  refine lv_istore_n (lv' := [(2, .int v1), (0, .ref o), (1, .int x1)]) hx hb dX2_findOtherArity_6 rfl hl (by decide) rfl (fun ls hl => ?_)
  obtain ⟨z7, hz7, hm⟩ := bd_at hm
  refine L7 x1 F v1 z7 hz7 (fun q8 H locs ls ez hP hD hS hl => ?_) (fun o ho => ?_) H locs ls hP hD hS (lv_sub hl [0, 1, 2] rfl)
  · have hm := cs_l ez hm
    refine lv_iconst (v := (-1 : Int32)) hx hb dX2_findOtherArity_55 (by decide) ?_
    have ho := Option.some.inj hm
    exact k_iret hx hb hr hlocks hK hP hD hS dX2_findOtherArity_56 hQ (by rw [← ho]) rfl
  · have hm := cs_r ho hm
    exact Option.some.inj hm
noncomputable def M_Inspector_isTooLarge_L9 (F : Nat) (o_width : Nat → Int32) (o_term : Nat → Int32) (o_start : Nat → Int32) (w1 : Int32) : Nat → Int32 → Int32 → Option ((Int32))
  | 0, _, _ => none
  | n + 1, y3, y2 => gd_ (w1 + (1 : Int32)) 241 <| lt_ ((o_start (w1 + (1 : Int32)).toNatClampNeg)) fun v2 => if v2 ≤ y3 then (some y2) else (bd_ (M_Program_variables F o_width o_term y3) fun z3 => lt_ ((y2 ||| z3)) fun v4 => lt_ (y3 + (1 : Int32)) fun v5 => M_Inspector_isTooLarge_L9 F o_width o_term o_start w1 n v5 v4)
noncomputable def M_Inspector_isTooLarge (F : Nat) (o_width : Nat → Int32) (o_term : Nat → Int32) (o_start : Nat → Int32) (x1 : Int32) : Option ((Int32)) := gd_ x1 241 <| lt_ ((o_start x1.toNatClampNeg)) fun v1 => bd_ (M_Inspector_isTooLarge_L9 F o_width o_term o_start x1 F v1 (0 : Int32)) fun z6 => gd_ (x1 + (1 : Int32)) 241 <| lt_ ((o_start (x1 + (1 : Int32)).toNatClampNeg)) fun v7 => gd_ x1 241 <| lt_ (((v7 - (o_start x1.toNatClampNeg)) - (1 : Int32))) fun v8 => if (16 : Int32) ≤ x1 then (some (1 : Int32)) else (if (5 : Int32) < v8 then (some (1 : Int32)) else (bd_ (M_Integer_bitCount_0f7a4 z6) fun z9 => if z9 ≤ (4 : Int32) then (some (0 : Int32)) else (some (1 : Int32))))
set_option maxRecDepth 100000 in
set_option maxHeartbeats 4000000 in
theorem K_Inspector_isTooLarge (l : Launch) (D : va_G) (cB cI cZ cJ : ClassId) (o : Nat) (o_kind_a : Nat) (o_place_a : Nat) (o_who_a : Nat) (o_width_a : Nat) (o_term_a : Nat) (o_start_a : Nat) (o_sort_a : Nat) (o_arity_a : Nat) (o_stratum_a : Nat) (o_reach_a : Nat) (o_size : Int32) (o_rules : Int32) (o_width : Nat → Int32) (o_term : Nat → Int32) (o_start : Nat → Int32) (x1 : Int32) (F : Nat) (out : (Int32)) (hm : M_Inspector_isTooLarge F o_width o_term o_start x1 = some out) : KC l yX2_isTooLarge cX2_isTooLarge 4 (some .boolean) { frames := 1, cells := 0, slots := 0, locals := 24 } D (kTy cB cI cZ cJ) [.ref o, .int x1] [(o, .inr (4, [.ref o_kind_a, .ref o_place_a, .ref o_who_a, .ref o_width_a, .ref o_term_a, .ref o_start_a, .int o_size, .int o_rules, .ref o_sort_a, .ref o_arity_a, .ref o_stratum_a, .ref o_reach_a])), (o_width_a, .inl (cI, 240, .inl o_width)), (o_term_a, .inl (cI, 720, .inl o_term)), (o_start_a, .inl (cI, 241, .inl o_start))] (some (.int out)) [(o, .inr (4, [.ref o_kind_a, .ref o_place_a, .ref o_who_a, .ref o_width_a, .ref o_term_a, .ref o_start_a, .int o_size, .int o_rules, .ref o_sort_a, .ref o_arity_a, .ref o_stratum_a, .ref o_reach_a])), (o_width_a, .inl (cI, 240, .inl o_width)), (o_term_a, .inl (cI, 720, .inl o_term)), (o_start_a, .inl (cI, 241, .inl o_start))] := by
  refine KC.of (by decide +kernel) (Nat.le_of_ble_eq_true rfl) ?_
  intro p e s m below meth c A ls args Q hQ CX hA hK hP hD hl
  obtain ⟨hx, hb, hr, hml, hown, hts, hlocks⟩ := CX
  have hown : s.vm.findClass RX2 = some m.cls := hown
  have hS : va_S A s.heap s.heap [] := va_S.rf
  have hl : lv_has ls 4 [(0, .ref o), (1, .int x1)] := hl
  have L9 : ∀ (w1 : Int32) (n : Nat) (y3 : Int32) (y2 : Int32) (z : ((Int32))), M_Inspector_isTooLarge_L9 F o_width o_term o_start w1 n y3 y2 = some z →
      (∀ (H : Heap) (locs : List Loc) (ls : Array Slot), va_P D vwCl [(o, .inr (4, [.ref o_kind_a, .ref o_place_a, .ref o_who_a, .ref o_width_a, .ref o_term_a, .ref o_start_a, .int o_size, .int o_rules, .ref o_sort_a, .ref o_arity_a, .ref o_stratum_a, .ref o_reach_a])), (o_width_a, .inl (cI, 240, .inl o_width)), (o_term_a, .inl (cI, 720, .inl o_term)), (o_start_a, .inl (cI, 241, .inl o_start))] H → va_D A [(o, .inr (4, [.ref o_kind_a, .ref o_place_a, .ref o_who_a, .ref o_width_a, .ref o_term_a, .ref o_start_a, .int o_size, .int o_rules, .ref o_sort_a, .ref o_arity_a, .ref o_stratum_a, .ref o_reach_a])), (o_width_a, .inl (cI, 240, .inl o_width)), (o_term_a, .inl (cI, 720, .inl o_term)), (o_start_a, .inl (cI, 241, .inl o_start))] → va_S A s.heap H locs → lv_has ls 4 [(2, .int z), (0, .ref o), (1, .int w1)] → W p l e { frames := 1, cells := 0, slots := 0, locals := 24 } s m args below meth c H locs 0 0 Q (F0 m 35 ls [])) →
      ∀ (H : Heap) (locs : List Loc) (ls : Array Slot), va_P D vwCl [(o, .inr (4, [.ref o_kind_a, .ref o_place_a, .ref o_who_a, .ref o_width_a, .ref o_term_a, .ref o_start_a, .int o_size, .int o_rules, .ref o_sort_a, .ref o_arity_a, .ref o_stratum_a, .ref o_reach_a])), (o_width_a, .inl (cI, 240, .inl o_width)), (o_term_a, .inl (cI, 720, .inl o_term)), (o_start_a, .inl (cI, 241, .inl o_start))] H → va_D A [(o, .inr (4, [.ref o_kind_a, .ref o_place_a, .ref o_who_a, .ref o_width_a, .ref o_term_a, .ref o_start_a, .int o_size, .int o_rules, .ref o_sort_a, .ref o_arity_a, .ref o_stratum_a, .ref o_reach_a])), (o_width_a, .inl (cI, 240, .inl o_width)), (o_term_a, .inl (cI, 720, .inl o_term)), (o_start_a, .inl (cI, 241, .inl o_start))] → va_S A s.heap H locs → lv_has ls 4 [(3, .int y3), (2, .int y2), (0, .ref o), (1, .int w1)] → W p l e { frames := 1, cells := 0, slots := 0, locals := 24 } s m args below meth c H locs 0 0 Q (F0 m 9 ls []) := by
    intro w1 n
    induction n with
    | zero => intro y3 y2 z hm; unfold M_Inspector_isTooLarge_L9 at hm; cases hm
    | succ n ih =>
      intro y3 y2 z hm hE H locs ls hP hD hS hl
      unfold M_Inspector_isTooLarge_L9 at hm
      refine lv_iload_n hx hb dX2_isTooLarge_9 rfl (lv_at hl 0 rfl) ?_
      refine lv_aload_n hx hb dX2_isTooLarge_10 rfl (lv_at hl 2 rfl) ?_
      refine va_get (D := D) (ci := 4) (v := .ref o_start_a) (C := RX4) (T := TX4) (N := 12) hx hb hts in_X4 hown hK hP 0 rfl rfl 5 (by decide) (hts _ kf_X2_37) (fun _ h9 => h9) rfl dX2_isTooLarge_11 ?_
      refine lv_iload_n hx hb dX2_isTooLarge_14 rfl (lv_at hl 3 rfl) ?_
      refine lv_iconst (v := (1 : Int32)) hx hb dX2_isTooLarge_15 (by decide) ?_
      refine lv_iadd hx hb dX2_isTooLarge_16 ?_
      refine va_iald hx hb hK hP 3 1 rfl rfl (gd_in hm) dX2_isTooLarge_17 ?_
      have hm := gd_go hm
      refine lv_topi (fun v2 ev2 => ?_)
      have hm := lt_at ev2 hm
      refine lv_icmp_ge (tgt := 35) hx hb dX2_isTooLarge_18 (by decide) (fun hc => ?_) (fun hc => ?_)
      · have hm := if_t hc hm
        cases hm
        exact hE H locs ls hP hD hS (lv_sub hl [1, 2, 3] rfl)
      · have hm := if_f hc hm
        refine lv_iload_n hx hb dX2_isTooLarge_21 rfl (lv_at hl 1 rfl) ?_
        refine lv_aload_n hx hb dX2_isTooLarge_22 rfl (lv_at hl 2 rfl) ?_
        refine lv_iload_n hx hb dX2_isTooLarge_23 rfl (lv_at hl 0 rfl) ?_
        obtain ⟨z3, hz3, hm⟩ := bd_at hm
        refine k_callV (As := [.int y3]) (rest := [.int y2]) (wr := [(o_start_a, .inl (cI, 241, .inl o_start))]) (ws1 := [(o, .inr (4, [.ref o_kind_a, .ref o_place_a, .ref o_who_a, .ref o_width_a, .ref o_term_a, .ref o_start_a, .int o_size, .int o_rules, .ref o_sort_a, .ref o_arity_a, .ref o_stratum_a, .ref o_reach_a])), (o_width_a, .inl (cI, 240, .inl o_width)), (o_term_a, .inl (cI, 720, .inl o_term)), (o_start_a, .inl (cI, 241, .inl o_start))]) [0, 1, 2] [3] [1, 2, 3, 0] (K_Program_variables l D cB cI cZ cJ o o_kind_a o_place_a o_who_a o_width_a o_term_a o_start_a o_sort_a o_arity_a o_stratum_a o_reach_a o_size o_rules o_width o_term y3 F z3 hz3) mf_X4_variables km_X2_67 hx hb hml hown hts hK hP hD hS hA hl.1 ⟨Nat.zero_le _, Nat.zero_le _⟩ dX2_isTooLarge_24 rfl rfl (Nat.le_of_ble_eq_true rfl) ⟨⟨rfl, rfl⟩, Nat.le_of_ble_eq_true rfl, Nat.le_of_ble_eq_true rfl⟩ rfl rfl (by decide) rfl rfl rfl rfl (fun H locs hP hD hS => ?_)
        have hP : va_P D vwCl [(o, .inr (4, [.ref o_kind_a, .ref o_place_a, .ref o_who_a, .ref o_width_a, .ref o_term_a, .ref o_start_a, .int o_size, .int o_rules, .ref o_sort_a, .ref o_arity_a, .ref o_stratum_a, .ref o_reach_a])), (o_width_a, .inl (cI, 240, .inl o_width)), (o_term_a, .inl (cI, 720, .inl o_term)), (o_start_a, .inl (cI, 241, .inl o_start))] H := hP
        have hD : va_D A [(o, .inr (4, [.ref o_kind_a, .ref o_place_a, .ref o_who_a, .ref o_width_a, .ref o_term_a, .ref o_start_a, .int o_size, .int o_rules, .ref o_sort_a, .ref o_arity_a, .ref o_stratum_a, .ref o_reach_a])), (o_width_a, .inl (cI, 240, .inl o_width)), (o_term_a, .inl (cI, 720, .inl o_term)), (o_start_a, .inl (cI, 241, .inl o_start))] := hD
        refine lv_ior hx hb dX2_isTooLarge_27 ?_
        refine lv_topi (fun v4 ev4 => ?_)
        have hm := lt_at ev4 hm
        refine lv_istore_n (lv' := [(2, .int v4), (3, .int y3), (0, .ref o), (1, .int w1)]) hx hb dX2_isTooLarge_28 rfl hl (by decide) rfl (fun ls hl => ?_)
        obtain ⟨v5, ev5⟩ : ∃ y : Int32, y = y3 + (1 : Int32) := ⟨_, rfl⟩
        have hm := lt_at ev5 hm
        refine lv_iinc (v := v5) (lv' := [(3, .int v5), (2, .int v4), (0, .ref o), (1, .int w1)]) hx hb dX2_isTooLarge_29 hl (k := 1) rfl (by rw [ev5]; rfl) (by decide) rfl (fun ls hl => ?_)
        refine lv_goto (tgt := 9) hx hb dX2_isTooLarge_32 (by decide) ?_
        exact ih v5 v4 z hm hE H locs ls hP hD hS (lv_sub hl [0, 1, 2, 3] rfl)
  unfold M_Inspector_isTooLarge at hm
  obtain ⟨H, eH⟩ : ∃ H, H = s.heap := ⟨_, rfl⟩
  obtain ⟨locs, el⟩ : ∃ x : List Loc, x = [] := ⟨_, rfl⟩
  have hP : va_P D vwCl [(o, .inr (4, [.ref o_kind_a, .ref o_place_a, .ref o_who_a, .ref o_width_a, .ref o_term_a, .ref o_start_a, .int o_size, .int o_rules, .ref o_sort_a, .ref o_arity_a, .ref o_stratum_a, .ref o_reach_a])), (o_width_a, .inl (cI, 240, .inl o_width)), (o_term_a, .inl (cI, 720, .inl o_term)), (o_start_a, .inl (cI, 241, .inl o_start))] H := eH ▸ hP
  have hS : va_S A s.heap H locs := by rw [eH, el]; exact hS
  suffices hW : W p l e { frames := 1, cells := 0, slots := 0, locals := 24 } s m args below meth c H locs 0 0 Q (F0 m 0 ls []) by rw [eH, el] at hW; exact hW
  clear eH el
  refine lv_iconst (v := (0 : Int32)) hx hb dX2_isTooLarge_0 (by decide) ?_
  refine lv_istore_n (lv' := [(2, .int (0 : Int32)), (0, .ref o), (1, .int x1)]) hx hb dX2_isTooLarge_1 rfl hl (by decide) rfl (fun ls hl => ?_)
  refine lv_aload_n hx hb dX2_isTooLarge_2 rfl (lv_at hl 1 rfl) ?_
  refine va_get (D := D) (ci := 4) (v := .ref o_start_a) (C := RX4) (T := TX4) (N := 12) hx hb hts in_X4 hown hK hP 0 rfl rfl 5 (by decide) (hts _ kf_X2_37) (fun _ h9 => h9) rfl dX2_isTooLarge_3 ?_
  refine lv_iload_n hx hb dX2_isTooLarge_6 rfl (lv_at hl 2 rfl) ?_
  refine va_iald hx hb hK hP 3 1 rfl rfl (gd_in hm) dX2_isTooLarge_7 ?_
  have hm := gd_go hm
  refine lv_topi (fun v1 ev1 => ?_)
  have hm := lt_at ev1 hm
  refine lv_istore_n (lv' := [(3, .int v1), (2, .int (0 : Int32)), (0, .ref o), (1, .int x1)]) hx hb dX2_isTooLarge_8 rfl hl (by decide) rfl (fun ls hl => ?_)
  obtain ⟨z6, hz6, hm⟩ := bd_at hm
  refine L9 x1 F v1 (0 : Int32) z6 hz6 (fun H locs ls hP hD hS hl => ?_) H locs ls hP hD hS (lv_sub hl [0, 1, 2, 3] rfl)
  refine lv_aload_n hx hb dX2_isTooLarge_35 rfl (lv_at hl 1 rfl) ?_
  refine va_get (D := D) (ci := 4) (v := .ref o_start_a) (C := RX4) (T := TX4) (N := 12) hx hb hts in_X4 hown hK hP 0 rfl rfl 5 (by decide) (hts _ kf_X2_37) (fun _ h9 => h9) rfl dX2_isTooLarge_36 ?_
  refine lv_iload_n hx hb dX2_isTooLarge_39 rfl (lv_at hl 2 rfl) ?_
  refine lv_iconst (v := (1 : Int32)) hx hb dX2_isTooLarge_40 (by decide) ?_
  refine lv_iadd hx hb dX2_isTooLarge_41 ?_
  refine va_iald hx hb hK hP 3 1 rfl rfl (gd_in hm) dX2_isTooLarge_42 ?_
  have hm := gd_go hm
  refine lv_topi (fun v7 ev7 => ?_)
  have hm := lt_at ev7 hm
  refine lv_aload_n hx hb dX2_isTooLarge_43 rfl (lv_at hl 1 rfl) ?_
  refine va_get (D := D) (ci := 4) (v := .ref o_start_a) (C := RX4) (T := TX4) (N := 12) hx hb hts in_X4 hown hK hP 0 rfl rfl 5 (by decide) (hts _ kf_X2_37) (fun _ h9 => h9) rfl dX2_isTooLarge_44 ?_
  refine lv_iload_n hx hb dX2_isTooLarge_47 rfl (lv_at hl 2 rfl) ?_
  refine va_iald hx hb hK hP 3 1 rfl rfl (gd_in hm) dX2_isTooLarge_48 ?_
  have hm := gd_go hm
  refine lv_isub hx hb dX2_isTooLarge_49 ?_
  refine lv_iconst (v := (1 : Int32)) hx hb dX2_isTooLarge_50 (by decide) ?_
  refine lv_isub hx hb dX2_isTooLarge_51 ?_
  refine lv_topi (fun v8 ev8 => ?_)
  have hm := lt_at ev8 hm
  refine lv_istore_n (lv' := [(3, .int v8), (2, .int z6), (0, .ref o), (1, .int x1)]) hx hb dX2_isTooLarge_52 rfl hl (by decide) rfl (fun ls hl => ?_)
  refine lv_iload_n hx hb dX2_isTooLarge_53 rfl (lv_at hl 3 rfl) ?_
  refine lv_bipush (v := (16 : Int32)) hx hb dX2_isTooLarge_54 (by decide) ?_
  refine lv_icmp_ge (tgt := 72) hx hb dX2_isTooLarge_56 (by decide) (fun hc => ?_) (fun hc => ?_)
  · have hm := if_t hc hm
    refine lv_iconst (v := (1 : Int32)) hx hb dX2_isTooLarge_72 (by decide) ?_
    refine lv_goto (tgt := 77) hx hb dX2_isTooLarge_73 (by decide) ?_
    have ho := Option.some.inj hm
    exact k_zret (by decide +kernel) hx hb hr hlocks hK hP hD hS dX2_isTooLarge_77 hQ (by rw [← ho]) rfl
  · have hm := if_f hc hm
    refine lv_iload_n hx hb dX2_isTooLarge_59 rfl (lv_at hl 0 rfl) ?_
    refine lv_iconst (v := (5 : Int32)) hx hb dX2_isTooLarge_60 (by decide) ?_
    refine lv_icmp_gt (tgt := 72) hx hb dX2_isTooLarge_61 (by decide) (fun hc => ?_) (fun hc => ?_)
    · have hm := if_t hc hm
      refine lv_iconst (v := (1 : Int32)) hx hb dX2_isTooLarge_72 (by decide) ?_
      refine lv_goto (tgt := 77) hx hb dX2_isTooLarge_73 (by decide) ?_
      have ho := Option.some.inj hm
      exact k_zret (by decide +kernel) hx hb hr hlocks hK hP hD hS dX2_isTooLarge_77 hQ (by rw [← ho]) rfl
    · have hm := if_f hc hm
      refine lv_iload_n hx hb dX2_isTooLarge_64 rfl (lv_at hl 1 rfl) ?_
      obtain ⟨z9, hz9, hm⟩ := bd_at hm
      refine k_callS (As := [.int z6]) (rest := []) (wr := [(o, .inr (4, [.ref o_kind_a, .ref o_place_a, .ref o_who_a, .ref o_width_a, .ref o_term_a, .ref o_start_a, .int o_size, .int o_rules, .ref o_sort_a, .ref o_arity_a, .ref o_stratum_a, .ref o_reach_a])), (o_width_a, .inl (cI, 240, .inl o_width)), (o_term_a, .inl (cI, 720, .inl o_term)), (o_start_a, .inl (cI, 241, .inl o_start))]) (ws1 := [(o, .inr (4, [.ref o_kind_a, .ref o_place_a, .ref o_who_a, .ref o_width_a, .ref o_term_a, .ref o_start_a, .int o_size, .int o_rules, .ref o_sort_a, .ref o_arity_a, .ref o_stratum_a, .ref o_reach_a])), (o_width_a, .inl (cI, 240, .inl o_width)), (o_term_a, .inl (cI, 720, .inl o_term)), (o_start_a, .inl (cI, 241, .inl o_start))]) [] [0, 1, 2, 3] [0, 1, 2, 3] (K_Integer_bitCount_0f7a4 l D cB cI cZ cJ z6 z9 hz9) ms_J6_bitCount_0f7a4 km_X2_71 hx hb hml hown hts hK hP hD hS hA hl.1 ⟨Nat.zero_le _, Nat.zero_le _⟩ dX2_isTooLarge_65 rfl rfl (Nat.le_of_ble_eq_true rfl) ⟨⟨rfl, rfl⟩, Nat.le_of_ble_eq_true rfl, Nat.le_of_ble_eq_true rfl⟩ rfl rfl (by decide) rfl (fun H locs hP hD hS => ?_)
      have hP : va_P D vwCl [(o, .inr (4, [.ref o_kind_a, .ref o_place_a, .ref o_who_a, .ref o_width_a, .ref o_term_a, .ref o_start_a, .int o_size, .int o_rules, .ref o_sort_a, .ref o_arity_a, .ref o_stratum_a, .ref o_reach_a])), (o_width_a, .inl (cI, 240, .inl o_width)), (o_term_a, .inl (cI, 720, .inl o_term)), (o_start_a, .inl (cI, 241, .inl o_start))] H := hP
      have hD : va_D A [(o, .inr (4, [.ref o_kind_a, .ref o_place_a, .ref o_who_a, .ref o_width_a, .ref o_term_a, .ref o_start_a, .int o_size, .int o_rules, .ref o_sort_a, .ref o_arity_a, .ref o_stratum_a, .ref o_reach_a])), (o_width_a, .inl (cI, 240, .inl o_width)), (o_term_a, .inl (cI, 720, .inl o_term)), (o_start_a, .inl (cI, 241, .inl o_start))] := hD
      refine lv_iconst (v := (4 : Int32)) hx hb dX2_isTooLarge_68 (by decide) ?_
      refine lv_icmp_le (tgt := 76) hx hb dX2_isTooLarge_69 (by decide) (fun hc => ?_) (fun hc => ?_)
      · have hm := if_t hc hm
        refine lv_iconst (v := (0 : Int32)) hx hb dX2_isTooLarge_76 (by decide) ?_
        have ho := Option.some.inj hm
        exact k_zret (by decide +kernel) hx hb hr hlocks hK hP hD hS dX2_isTooLarge_77 hQ (by rw [← ho]) rfl
      · have hm := if_f hc hm
        refine lv_iconst (v := (1 : Int32)) hx hb dX2_isTooLarge_72 (by decide) ?_
        refine lv_goto (tgt := 77) hx hb dX2_isTooLarge_73 (by decide) ?_
        have ho := Option.some.inj hm
        exact k_zret (by decide +kernel) hx hb hr hlocks hK hP hD hS dX2_isTooLarge_77 hQ (by rw [← ho]) rfl
noncomputable def M_Inspector_hasUnboundVariable_L12 (F : Nat) (o_kind : Nat → Int32) (o_width : Nat → Int32) (o_term : Nat → Int32) (o_start : Nat → Int32) (w1 : Int32) : Nat → Int32 → Int32 → Int32 → Option ((Int32) × (Int32))
  | 0, _, _, _ => none
  | n + 1, y4, y3, y2 => gd_ (w1 + (1 : Int32)) 241 <| lt_ ((o_start (w1 + (1 : Int32)).toNatClampNeg)) fun v2 => if v2 ≤ y4 then (some (y3, y2)) else (gd_ y4 240 <| if (o_kind y4.toNatClampNeg) = (1 : Int32) then (bd_ (M_Program_variables F o_width o_term y4) fun z6 => lt_ ((y2 ||| z6)) fun v7 => lt_ (y4 + (1 : Int32)) fun v8 => M_Inspector_hasUnboundVariable_L12 F o_kind o_width o_term o_start w1 n v8 y3 v7) else (bd_ (M_Program_variables F o_width o_term y4) fun z3 => lt_ ((y3 ||| z3)) fun v4 => lt_ (y4 + (1 : Int32)) fun v5 => M_Inspector_hasUnboundVariable_L12 F o_kind o_width o_term o_start w1 n v5 v4 y2))
noncomputable def M_Inspector_hasUnboundVariable (F : Nat) (o_kind : Nat → Int32) (o_width : Nat → Int32) (o_term : Nat → Int32) (o_start : Nat → Int32) (x1 : Int32) : Option ((Int32)) := gd_ x1 241 <| lt_ ((o_start x1.toNatClampNeg)) fun v1 => bd_ (M_Inspector_hasUnboundVariable_L12 F o_kind o_width o_term o_start x1 F v1 (0 : Int32) (0 : Int32)) fun z9 => if (z9.1 &&& (z9.2 ^^^ (-1 : Int32))) = 0 then (some (0 : Int32)) else (some (1 : Int32))
set_option maxRecDepth 100000 in
set_option maxHeartbeats 4000000 in
theorem K_Inspector_hasUnboundVariable (l : Launch) (D : va_G) (cB cI cZ cJ : ClassId) (o : Nat) (o_kind_a : Nat) (o_place_a : Nat) (o_who_a : Nat) (o_width_a : Nat) (o_term_a : Nat) (o_start_a : Nat) (o_sort_a : Nat) (o_arity_a : Nat) (o_stratum_a : Nat) (o_reach_a : Nat) (o_size : Int32) (o_rules : Int32) (o_kind : Nat → Int32) (o_width : Nat → Int32) (o_term : Nat → Int32) (o_start : Nat → Int32) (x1 : Int32) (F : Nat) (out : (Int32)) (hm : M_Inspector_hasUnboundVariable F o_kind o_width o_term o_start x1 = some out) : KC l yX2_hasUnboundVariable cX2_hasUnboundVariable 5 (some .boolean) { frames := 1, cells := 0, slots := 0, locals := 24 } D (kTy cB cI cZ cJ) [.ref o, .int x1] [(o, .inr (4, [.ref o_kind_a, .ref o_place_a, .ref o_who_a, .ref o_width_a, .ref o_term_a, .ref o_start_a, .int o_size, .int o_rules, .ref o_sort_a, .ref o_arity_a, .ref o_stratum_a, .ref o_reach_a])), (o_kind_a, .inl (cI, 240, .inl o_kind)), (o_width_a, .inl (cI, 240, .inl o_width)), (o_term_a, .inl (cI, 720, .inl o_term)), (o_start_a, .inl (cI, 241, .inl o_start))] (some (.int out)) [(o, .inr (4, [.ref o_kind_a, .ref o_place_a, .ref o_who_a, .ref o_width_a, .ref o_term_a, .ref o_start_a, .int o_size, .int o_rules, .ref o_sort_a, .ref o_arity_a, .ref o_stratum_a, .ref o_reach_a])), (o_kind_a, .inl (cI, 240, .inl o_kind)), (o_width_a, .inl (cI, 240, .inl o_width)), (o_term_a, .inl (cI, 720, .inl o_term)), (o_start_a, .inl (cI, 241, .inl o_start))] := by
  refine KC.of (by decide +kernel) (Nat.le_of_ble_eq_true rfl) ?_
  intro p e s m below meth c A ls args Q hQ CX hA hK hP hD hl
  obtain ⟨hx, hb, hr, hml, hown, hts, hlocks⟩ := CX
  have hown : s.vm.findClass RX2 = some m.cls := hown
  have hS : va_S A s.heap s.heap [] := va_S.rf
  have hl : lv_has ls 5 [(0, .ref o), (1, .int x1)] := hl
  have L12 : ∀ (w1 : Int32) (n : Nat) (y4 : Int32) (y3 : Int32) (y2 : Int32) (z : ((Int32) × (Int32))), M_Inspector_hasUnboundVariable_L12 F o_kind o_width o_term o_start w1 n y4 y3 y2 = some z →
      (∀ (H : Heap) (locs : List Loc) (ls : Array Slot), va_P D vwCl [(o, .inr (4, [.ref o_kind_a, .ref o_place_a, .ref o_who_a, .ref o_width_a, .ref o_term_a, .ref o_start_a, .int o_size, .int o_rules, .ref o_sort_a, .ref o_arity_a, .ref o_stratum_a, .ref o_reach_a])), (o_kind_a, .inl (cI, 240, .inl o_kind)), (o_width_a, .inl (cI, 240, .inl o_width)), (o_term_a, .inl (cI, 720, .inl o_term)), (o_start_a, .inl (cI, 241, .inl o_start))] H → va_D A [(o, .inr (4, [.ref o_kind_a, .ref o_place_a, .ref o_who_a, .ref o_width_a, .ref o_term_a, .ref o_start_a, .int o_size, .int o_rules, .ref o_sort_a, .ref o_arity_a, .ref o_stratum_a, .ref o_reach_a])), (o_kind_a, .inl (cI, 240, .inl o_kind)), (o_width_a, .inl (cI, 240, .inl o_width)), (o_term_a, .inl (cI, 720, .inl o_term)), (o_start_a, .inl (cI, 241, .inl o_start))] → va_S A s.heap H locs → lv_has ls 5 [(3, .int z.1), (2, .int z.2)] → W p l e { frames := 1, cells := 0, slots := 0, locals := 24 } s m args below meth c H locs 0 0 Q (F0 m 63 ls [])) →
      ∀ (H : Heap) (locs : List Loc) (ls : Array Slot), va_P D vwCl [(o, .inr (4, [.ref o_kind_a, .ref o_place_a, .ref o_who_a, .ref o_width_a, .ref o_term_a, .ref o_start_a, .int o_size, .int o_rules, .ref o_sort_a, .ref o_arity_a, .ref o_stratum_a, .ref o_reach_a])), (o_kind_a, .inl (cI, 240, .inl o_kind)), (o_width_a, .inl (cI, 240, .inl o_width)), (o_term_a, .inl (cI, 720, .inl o_term)), (o_start_a, .inl (cI, 241, .inl o_start))] H → va_D A [(o, .inr (4, [.ref o_kind_a, .ref o_place_a, .ref o_who_a, .ref o_width_a, .ref o_term_a, .ref o_start_a, .int o_size, .int o_rules, .ref o_sort_a, .ref o_arity_a, .ref o_stratum_a, .ref o_reach_a])), (o_kind_a, .inl (cI, 240, .inl o_kind)), (o_width_a, .inl (cI, 240, .inl o_width)), (o_term_a, .inl (cI, 720, .inl o_term)), (o_start_a, .inl (cI, 241, .inl o_start))] → va_S A s.heap H locs → lv_has ls 5 [(4, .int y4), (3, .int y3), (2, .int y2), (0, .ref o), (1, .int w1)] → W p l e { frames := 1, cells := 0, slots := 0, locals := 24 } s m args below meth c H locs 0 0 Q (F0 m 12 ls []) := by
    intro w1 n
    induction n with
    | zero => intro y4 y3 y2 z hm; unfold M_Inspector_hasUnboundVariable_L12 at hm; cases hm
    | succ n ih =>
      intro y4 y3 y2 z hm hE H locs ls hP hD hS hl
      unfold M_Inspector_hasUnboundVariable_L12 at hm
      refine lv_iload hx hb dX2_hasUnboundVariable_12 (lv_at hl 0 rfl) ?_
      refine lv_aload_n hx hb dX2_hasUnboundVariable_14 rfl (lv_at hl 3 rfl) ?_
      refine va_get (D := D) (ci := 4) (v := .ref o_start_a) (C := RX4) (T := TX4) (N := 12) hx hb hts in_X4 hown hK hP 0 rfl rfl 5 (by decide) (hts _ kf_X2_37) (fun _ h9 => h9) rfl dX2_hasUnboundVariable_15 ?_
      refine lv_iload_n hx hb dX2_hasUnboundVariable_18 rfl (lv_at hl 4 rfl) ?_
      refine lv_iconst (v := (1 : Int32)) hx hb dX2_hasUnboundVariable_19 (by decide) ?_
      refine lv_iadd hx hb dX2_hasUnboundVariable_20 ?_
      refine va_iald hx hb hK hP 4 1 rfl rfl (gd_in hm) dX2_hasUnboundVariable_21 ?_
      have hm := gd_go hm
      refine lv_topi (fun v2 ev2 => ?_)
      have hm := lt_at ev2 hm
      refine lv_icmp_ge (tgt := 63) hx hb dX2_hasUnboundVariable_22 (by decide) (fun hc => ?_) (fun hc => ?_)
      · have hm := if_t hc hm
        cases hm
        exact hE H locs ls hP hD hS (lv_sub hl [1, 2] rfl)
      · have hm := if_f hc hm
        refine lv_aload_n hx hb dX2_hasUnboundVariable_25 rfl (lv_at hl 3 rfl) ?_
        refine va_get (D := D) (ci := 4) (v := .ref o_kind_a) (C := RX4) (T := TX4) (N := 12) hx hb hts in_X4 hown hK hP 0 rfl rfl 0 (by decide) (hts _ kf_X2_76) (fun _ h9 => h9) rfl dX2_hasUnboundVariable_26 ?_
        refine lv_iload hx hb dX2_hasUnboundVariable_29 (lv_at hl 0 rfl) ?_
        refine va_iald hx hb hK hP 1 1 rfl rfl (gd_in hm) dX2_hasUnboundVariable_31 ?_
        have hm := gd_go hm
        refine lv_iconst (v := (1 : Int32)) hx hb dX2_hasUnboundVariable_32 (by decide) ?_
        refine lv_icmp_ne (tgt := 48) hx hb dX2_hasUnboundVariable_33 (by decide) (fun hc => ?_) (fun hc => ?_)
        · have hm := if_f hc hm
          refine lv_iload_n hx hb dX2_hasUnboundVariable_48 rfl (lv_at hl 1 rfl) ?_
          refine lv_aload_n hx hb dX2_hasUnboundVariable_49 rfl (lv_at hl 3 rfl) ?_
          refine lv_iload hx hb dX2_hasUnboundVariable_50 (lv_at hl 0 rfl) ?_
          obtain ⟨z3, hz3, hm⟩ := bd_at hm
          refine k_callV (As := [.int y4]) (rest := [.int y3]) (wr := [(o_kind_a, .inl (cI, 240, .inl o_kind)), (o_start_a, .inl (cI, 241, .inl o_start))]) (ws1 := [(o, .inr (4, [.ref o_kind_a, .ref o_place_a, .ref o_who_a, .ref o_width_a, .ref o_term_a, .ref o_start_a, .int o_size, .int o_rules, .ref o_sort_a, .ref o_arity_a, .ref o_stratum_a, .ref o_reach_a])), (o_kind_a, .inl (cI, 240, .inl o_kind)), (o_width_a, .inl (cI, 240, .inl o_width)), (o_term_a, .inl (cI, 720, .inl o_term)), (o_start_a, .inl (cI, 241, .inl o_start))]) [0, 2, 3] [1, 4] [2, 0, 3, 4, 1] (K_Program_variables l D cB cI cZ cJ o o_kind_a o_place_a o_who_a o_width_a o_term_a o_start_a o_sort_a o_arity_a o_stratum_a o_reach_a o_size o_rules o_width o_term y4 F z3 hz3) mf_X4_variables km_X2_67 hx hb hml hown hts hK hP hD hS hA hl.1 ⟨Nat.zero_le _, Nat.zero_le _⟩ dX2_hasUnboundVariable_52 rfl rfl (Nat.le_of_ble_eq_true rfl) ⟨⟨rfl, rfl⟩, Nat.le_of_ble_eq_true rfl, Nat.le_of_ble_eq_true rfl⟩ rfl rfl (by decide) rfl rfl rfl rfl (fun H locs hP hD hS => ?_)
          have hP : va_P D vwCl [(o, .inr (4, [.ref o_kind_a, .ref o_place_a, .ref o_who_a, .ref o_width_a, .ref o_term_a, .ref o_start_a, .int o_size, .int o_rules, .ref o_sort_a, .ref o_arity_a, .ref o_stratum_a, .ref o_reach_a])), (o_kind_a, .inl (cI, 240, .inl o_kind)), (o_width_a, .inl (cI, 240, .inl o_width)), (o_term_a, .inl (cI, 720, .inl o_term)), (o_start_a, .inl (cI, 241, .inl o_start))] H := hP
          have hD : va_D A [(o, .inr (4, [.ref o_kind_a, .ref o_place_a, .ref o_who_a, .ref o_width_a, .ref o_term_a, .ref o_start_a, .int o_size, .int o_rules, .ref o_sort_a, .ref o_arity_a, .ref o_stratum_a, .ref o_reach_a])), (o_kind_a, .inl (cI, 240, .inl o_kind)), (o_width_a, .inl (cI, 240, .inl o_width)), (o_term_a, .inl (cI, 720, .inl o_term)), (o_start_a, .inl (cI, 241, .inl o_start))] := hD
          refine lv_ior hx hb dX2_hasUnboundVariable_55 ?_
          refine lv_topi (fun v4 ev4 => ?_)
          have hm := lt_at ev4 hm
          refine lv_istore_n (lv' := [(3, .int v4), (4, .int y4), (2, .int y2), (0, .ref o), (1, .int w1)]) hx hb dX2_hasUnboundVariable_56 rfl hl (by decide) rfl (fun ls hl => ?_)
          obtain ⟨v5, ev5⟩ : ∃ y : Int32, y = y4 + (1 : Int32) := ⟨_, rfl⟩
          have hm := lt_at ev5 hm
          refine lv_iinc (v := v5) (lv' := [(4, .int v5), (3, .int v4), (2, .int y2), (0, .ref o), (1, .int w1)]) hx hb dX2_hasUnboundVariable_57 hl (k := 1) rfl (by rw [ev5]; rfl) (by decide) rfl (fun ls hl => ?_)
          refine lv_goto (tgt := 12) hx hb dX2_hasUnboundVariable_60 (by decide) ?_
          exact ih v5 v4 y2 z hm hE H locs ls hP hD hS (lv_sub hl [0, 1, 2, 3, 4] rfl)
        · have hm := if_t hc hm
          refine lv_iload_n hx hb dX2_hasUnboundVariable_36 rfl (lv_at hl 2 rfl) ?_
          refine lv_aload_n hx hb dX2_hasUnboundVariable_37 rfl (lv_at hl 3 rfl) ?_
          refine lv_iload hx hb dX2_hasUnboundVariable_38 (lv_at hl 0 rfl) ?_
          obtain ⟨z6, hz6, hm⟩ := bd_at hm
          refine k_callV (As := [.int y4]) (rest := [.int y2]) (wr := [(o_kind_a, .inl (cI, 240, .inl o_kind)), (o_start_a, .inl (cI, 241, .inl o_start))]) (ws1 := [(o, .inr (4, [.ref o_kind_a, .ref o_place_a, .ref o_who_a, .ref o_width_a, .ref o_term_a, .ref o_start_a, .int o_size, .int o_rules, .ref o_sort_a, .ref o_arity_a, .ref o_stratum_a, .ref o_reach_a])), (o_kind_a, .inl (cI, 240, .inl o_kind)), (o_width_a, .inl (cI, 240, .inl o_width)), (o_term_a, .inl (cI, 720, .inl o_term)), (o_start_a, .inl (cI, 241, .inl o_start))]) [0, 2, 3] [1, 4] [2, 0, 3, 4, 1] (K_Program_variables l D cB cI cZ cJ o o_kind_a o_place_a o_who_a o_width_a o_term_a o_start_a o_sort_a o_arity_a o_stratum_a o_reach_a o_size o_rules o_width o_term y4 F z6 hz6) mf_X4_variables km_X2_67 hx hb hml hown hts hK hP hD hS hA hl.1 ⟨Nat.zero_le _, Nat.zero_le _⟩ dX2_hasUnboundVariable_40 rfl rfl (Nat.le_of_ble_eq_true rfl) ⟨⟨rfl, rfl⟩, Nat.le_of_ble_eq_true rfl, Nat.le_of_ble_eq_true rfl⟩ rfl rfl (by decide) rfl rfl rfl rfl (fun H locs hP hD hS => ?_)
          have hP : va_P D vwCl [(o, .inr (4, [.ref o_kind_a, .ref o_place_a, .ref o_who_a, .ref o_width_a, .ref o_term_a, .ref o_start_a, .int o_size, .int o_rules, .ref o_sort_a, .ref o_arity_a, .ref o_stratum_a, .ref o_reach_a])), (o_kind_a, .inl (cI, 240, .inl o_kind)), (o_width_a, .inl (cI, 240, .inl o_width)), (o_term_a, .inl (cI, 720, .inl o_term)), (o_start_a, .inl (cI, 241, .inl o_start))] H := hP
          have hD : va_D A [(o, .inr (4, [.ref o_kind_a, .ref o_place_a, .ref o_who_a, .ref o_width_a, .ref o_term_a, .ref o_start_a, .int o_size, .int o_rules, .ref o_sort_a, .ref o_arity_a, .ref o_stratum_a, .ref o_reach_a])), (o_kind_a, .inl (cI, 240, .inl o_kind)), (o_width_a, .inl (cI, 240, .inl o_width)), (o_term_a, .inl (cI, 720, .inl o_term)), (o_start_a, .inl (cI, 241, .inl o_start))] := hD
          refine lv_ior hx hb dX2_hasUnboundVariable_43 ?_
          refine lv_topi (fun v7 ev7 => ?_)
          have hm := lt_at ev7 hm
          refine lv_istore_n (lv' := [(2, .int v7), (4, .int y4), (3, .int y3), (0, .ref o), (1, .int w1)]) hx hb dX2_hasUnboundVariable_44 rfl hl (by decide) rfl (fun ls hl => ?_)
          refine lv_goto (tgt := 57) hx hb dX2_hasUnboundVariable_45 (by decide) ?_
          obtain ⟨v8, ev8⟩ : ∃ y : Int32, y = y4 + (1 : Int32) := ⟨_, rfl⟩
          have hm := lt_at ev8 hm
          refine lv_iinc (v := v8) (lv' := [(4, .int v8), (2, .int v7), (3, .int y3), (0, .ref o), (1, .int w1)]) hx hb dX2_hasUnboundVariable_57 hl (k := 1) rfl (by rw [ev8]; rfl) (by decide) rfl (fun ls hl => ?_)
          refine lv_goto (tgt := 12) hx hb dX2_hasUnboundVariable_60 (by decide) ?_
          exact ih v8 y3 v7 z hm hE H locs ls hP hD hS (lv_sub hl [0, 2, 1, 3, 4] rfl)
  unfold M_Inspector_hasUnboundVariable at hm
  obtain ⟨H, eH⟩ : ∃ H, H = s.heap := ⟨_, rfl⟩
  obtain ⟨locs, el⟩ : ∃ x : List Loc, x = [] := ⟨_, rfl⟩
  have hP : va_P D vwCl [(o, .inr (4, [.ref o_kind_a, .ref o_place_a, .ref o_who_a, .ref o_width_a, .ref o_term_a, .ref o_start_a, .int o_size, .int o_rules, .ref o_sort_a, .ref o_arity_a, .ref o_stratum_a, .ref o_reach_a])), (o_kind_a, .inl (cI, 240, .inl o_kind)), (o_width_a, .inl (cI, 240, .inl o_width)), (o_term_a, .inl (cI, 720, .inl o_term)), (o_start_a, .inl (cI, 241, .inl o_start))] H := eH ▸ hP
  have hS : va_S A s.heap H locs := by rw [eH, el]; exact hS
  suffices hW : W p l e { frames := 1, cells := 0, slots := 0, locals := 24 } s m args below meth c H locs 0 0 Q (F0 m 0 ls []) by rw [eH, el] at hW; exact hW
  clear eH el
  refine lv_iconst (v := (0 : Int32)) hx hb dX2_hasUnboundVariable_0 (by decide) ?_
  refine lv_istore_n (lv' := [(2, .int (0 : Int32)), (0, .ref o), (1, .int x1)]) hx hb dX2_hasUnboundVariable_1 rfl hl (by decide) rfl (fun ls hl => ?_)
  refine lv_iconst (v := (0 : Int32)) hx hb dX2_hasUnboundVariable_2 (by decide) ?_
  refine lv_istore_n (lv' := [(3, .int (0 : Int32)), (2, .int (0 : Int32)), (0, .ref o), (1, .int x1)]) hx hb dX2_hasUnboundVariable_3 rfl hl (by decide) rfl (fun ls hl => ?_)
  refine lv_aload_n hx hb dX2_hasUnboundVariable_4 rfl (lv_at hl 2 rfl) ?_
  refine va_get (D := D) (ci := 4) (v := .ref o_start_a) (C := RX4) (T := TX4) (N := 12) hx hb hts in_X4 hown hK hP 0 rfl rfl 5 (by decide) (hts _ kf_X2_37) (fun _ h9 => h9) rfl dX2_hasUnboundVariable_5 ?_
  refine lv_iload_n hx hb dX2_hasUnboundVariable_8 rfl (lv_at hl 3 rfl) ?_
  refine va_iald hx hb hK hP 4 1 rfl rfl (gd_in hm) dX2_hasUnboundVariable_9 ?_
  have hm := gd_go hm
  refine lv_topi (fun v1 ev1 => ?_)
  have hm := lt_at ev1 hm
  refine lv_istore (lv' := [(4, .int v1), (3, .int (0 : Int32)), (2, .int (0 : Int32)), (0, .ref o), (1, .int x1)]) hx hb dX2_hasUnboundVariable_10 hl (by decide) rfl (fun ls hl => ?_)
  obtain ⟨z9, hz9, hm⟩ := bd_at hm
  refine L12 x1 F v1 (0 : Int32) (0 : Int32) z9 hz9 (fun H locs ls hP hD hS hl => ?_) H locs ls hP hD hS (lv_sub hl [0, 1, 2, 3, 4] rfl)
  refine lv_iload_n hx hb dX2_hasUnboundVariable_63 rfl (lv_at hl 0 rfl) ?_
  refine lv_iload_n hx hb dX2_hasUnboundVariable_64 rfl (lv_at hl 1 rfl) ?_
  refine lv_iconst (v := (-1 : Int32)) hx hb dX2_hasUnboundVariable_65 (by decide) ?_
  refine lv_ixor hx hb dX2_hasUnboundVariable_66 ?_
  refine lv_iand hx hb dX2_hasUnboundVariable_67 ?_
  refine lv_if_eq (tgt := 75) hx hb dX2_hasUnboundVariable_68 (by decide) (fun hc => ?_) (fun hc => ?_)
  · have hm := if_t hc hm
    refine lv_iconst (v := (0 : Int32)) hx hb dX2_hasUnboundVariable_75 (by decide) ?_
    have ho := Option.some.inj hm
    exact k_zret (by decide +kernel) hx hb hr hlocks hK hP hD hS dX2_hasUnboundVariable_76 hQ (by rw [← ho]) rfl
  · have hm := if_f hc hm
    refine lv_iconst (v := (1 : Int32)) hx hb dX2_hasUnboundVariable_71 (by decide) ?_
    refine lv_goto (tgt := 76) hx hb dX2_hasUnboundVariable_72 (by decide) ?_
    have ho := Option.some.inj hm
    exact k_zret (by decide +kernel) hx hb hr hlocks hK hP hD hS dX2_hasUnboundVariable_76 hQ (by rw [← ho]) rfl
noncomputable def M_Inspector_findDenialOfItself_L21 (F : Nat) (o_kind : Nat → Int32) (o_who : Nat → Int32) (o_start : Nat → Int32) (o_reach : Nat → Int32) (w2 : Int32) (w1 : Int32) : Nat → Int32 → Option ((Unit) ⊕ ((Int32)))
  | 0, _ => none
  | n + 1, y3 => gd_ (w1 + (1 : Int32)) 241 <| lt_ ((o_start (w1 + (1 : Int32)).toNatClampNeg)) fun v3 => if v3 ≤ y3 then (some (.inl ())) else (gd_ y3 240 <| if (o_kind y3.toNatClampNeg) = (2 : Int32) then (gd_ y3 240 <| gd_ (o_who y3.toNatClampNeg) 10 <| lt_ ((o_reach (o_who y3.toNatClampNeg).toNatClampNeg)) fun v5 => if ((v5 >>> (w2 &&& 31)) &&& (1 : Int32)) = 0 then (lt_ (y3 + (1 : Int32)) fun v6 => M_Inspector_findDenialOfItself_L21 F o_kind o_who o_start o_reach w2 w1 n v6) else (some (.inr y3))) else (lt_ (y3 + (1 : Int32)) fun v4 => M_Inspector_findDenialOfItself_L21 F o_kind o_who o_start o_reach w2 w1 n v4))
noncomputable def M_Inspector_findDenialOfItself (F : Nat) (o_kind : Nat → Int32) (o_who : Nat → Int32) (o_start : Nat → Int32) (o_reach : Nat → Int32) (x1 : Int32) : Option ((Int32)) := gd_ x1 241 <| gd_ (o_start x1.toNatClampNeg) 240 <| lt_ ((o_who (o_start x1.toNatClampNeg).toNatClampNeg)) fun v1 => gd_ x1 241 <| lt_ (((o_start x1.toNatClampNeg) + (1 : Int32))) fun v2 => bd_ (M_Inspector_findDenialOfItself_L21 F o_kind o_who o_start o_reach v1 x1 F v2) fun z7 => cs_ z7 (fun q8 => some (-1 : Int32)) (fun o => some o)
set_option maxRecDepth 100000 in
set_option maxHeartbeats 4000000 in
theorem K_Inspector_findDenialOfItself (l : Launch) (D : va_G) (cB cI cZ cJ : ClassId) (o : Nat) (o_kind_a : Nat) (o_place_a : Nat) (o_who_a : Nat) (o_width_a : Nat) (o_term_a : Nat) (o_start_a : Nat) (o_sort_a : Nat) (o_arity_a : Nat) (o_stratum_a : Nat) (o_reach_a : Nat) (o_size : Int32) (o_rules : Int32) (o_kind : Nat → Int32) (o_who : Nat → Int32) (o_start : Nat → Int32) (o_reach : Nat → Int32) (x1 : Int32) (F : Nat) (out : (Int32)) (hm : M_Inspector_findDenialOfItself F o_kind o_who o_start o_reach x1 = some out) : KC l yX2_findDenialOfItself cX2_findDenialOfItself 4 (some .int) { frames := 0, cells := 0, slots := 0, locals := 0 } D (kTy cB cI cZ cJ) [.ref o, .int x1] [(o, .inr (4, [.ref o_kind_a, .ref o_place_a, .ref o_who_a, .ref o_width_a, .ref o_term_a, .ref o_start_a, .int o_size, .int o_rules, .ref o_sort_a, .ref o_arity_a, .ref o_stratum_a, .ref o_reach_a])), (o_kind_a, .inl (cI, 240, .inl o_kind)), (o_who_a, .inl (cI, 240, .inl o_who)), (o_start_a, .inl (cI, 241, .inl o_start)), (o_reach_a, .inl (cI, 10, .inl o_reach))] (some (.int out)) [(o, .inr (4, [.ref o_kind_a, .ref o_place_a, .ref o_who_a, .ref o_width_a, .ref o_term_a, .ref o_start_a, .int o_size, .int o_rules, .ref o_sort_a, .ref o_arity_a, .ref o_stratum_a, .ref o_reach_a])), (o_kind_a, .inl (cI, 240, .inl o_kind)), (o_who_a, .inl (cI, 240, .inl o_who)), (o_start_a, .inl (cI, 241, .inl o_start)), (o_reach_a, .inl (cI, 10, .inl o_reach))] := by
  refine KC.of (by decide +kernel) (Nat.le_of_ble_eq_true rfl) ?_
  intro p e s m below meth c A ls args Q hQ CX hA hK hP hD hl
  obtain ⟨hx, hb, hr, hml, hown, hts, hlocks⟩ := CX
  have hown : s.vm.findClass RX2 = some m.cls := hown
  have hS : va_S A s.heap s.heap [] := va_S.rf
  have hl : lv_has ls 4 [(0, .ref o), (1, .int x1)] := hl
  have L21 : ∀ (w2 : Int32) (w1 : Int32) (n : Nat) (y3 : Int32) (z : ((Unit) ⊕ ((Int32)))), M_Inspector_findDenialOfItself_L21 F o_kind o_who o_start o_reach w2 w1 n y3 = some z →
      (∀ (q : Unit) (H : Heap) (locs : List Loc) (ls : Array Slot), z = .inl q → va_P D vwCl [(o, .inr (4, [.ref o_kind_a, .ref o_place_a, .ref o_who_a, .ref o_width_a, .ref o_term_a, .ref o_start_a, .int o_size, .int o_rules, .ref o_sort_a, .ref o_arity_a, .ref o_stratum_a, .ref o_reach_a])), (o_kind_a, .inl (cI, 240, .inl o_kind)), (o_who_a, .inl (cI, 240, .inl o_who)), (o_start_a, .inl (cI, 241, .inl o_start)), (o_reach_a, .inl (cI, 10, .inl o_reach))] H → va_D A [(o, .inr (4, [.ref o_kind_a, .ref o_place_a, .ref o_who_a, .ref o_width_a, .ref o_term_a, .ref o_start_a, .int o_size, .int o_rules, .ref o_sort_a, .ref o_arity_a, .ref o_stratum_a, .ref o_reach_a])), (o_kind_a, .inl (cI, 240, .inl o_kind)), (o_who_a, .inl (cI, 240, .inl o_who)), (o_start_a, .inl (cI, 241, .inl o_start)), (o_reach_a, .inl (cI, 10, .inl o_reach))] → va_S A s.heap H locs → lv_has ls 4 [] → W p l e { frames := 0, cells := 0, slots := 0, locals := 0 } s m args below meth c H locs 0 0 Q (F0 m 69 ls [])) →
      (∀ o, z = .inr o → o = out) →
      ∀ (H : Heap) (locs : List Loc) (ls : Array Slot), va_P D vwCl [(o, .inr (4, [.ref o_kind_a, .ref o_place_a, .ref o_who_a, .ref o_width_a, .ref o_term_a, .ref o_start_a, .int o_size, .int o_rules, .ref o_sort_a, .ref o_arity_a, .ref o_stratum_a, .ref o_reach_a])), (o_kind_a, .inl (cI, 240, .inl o_kind)), (o_who_a, .inl (cI, 240, .inl o_who)), (o_start_a, .inl (cI, 241, .inl o_start)), (o_reach_a, .inl (cI, 10, .inl o_reach))] H → va_D A [(o, .inr (4, [.ref o_kind_a, .ref o_place_a, .ref o_who_a, .ref o_width_a, .ref o_term_a, .ref o_start_a, .int o_size, .int o_rules, .ref o_sort_a, .ref o_arity_a, .ref o_stratum_a, .ref o_reach_a])), (o_kind_a, .inl (cI, 240, .inl o_kind)), (o_who_a, .inl (cI, 240, .inl o_who)), (o_start_a, .inl (cI, 241, .inl o_start)), (o_reach_a, .inl (cI, 10, .inl o_reach))] → va_S A s.heap H locs → lv_has ls 4 [(3, .int y3), (2, .int w2), (0, .ref o), (1, .int w1)] → W p l e { frames := 0, cells := 0, slots := 0, locals := 0 } s m args below meth c H locs 0 0 Q (F0 m 21 ls []) := by
    intro w2 w1 n
    induction n with
    | zero => intro y3 z hm; unfold M_Inspector_findDenialOfItself_L21 at hm; cases hm
    | succ n ih =>
      intro y3 z hm hE hR H locs ls hP hD hS hl
      unfold M_Inspector_findDenialOfItself_L21 at hm
      refine lv_iload_n hx hb dX2_findDenialOfItself_21 rfl (lv_at hl 0 rfl) ?_
      refine lv_aload_n hx hb dX2_findDenialOfItself_22 rfl (lv_at hl 2 rfl) ?_
      refine va_get (D := D) (ci := 4) (v := .ref o_start_a) (C := RX4) (T := TX4) (N := 12) hx hb hts in_X4 hown hK hP 0 rfl rfl 5 (by decide) (hts _ kf_X2_37) (fun _ h9 => h9) rfl dX2_findDenialOfItself_23 ?_
      refine lv_iload_n hx hb dX2_findDenialOfItself_26 rfl (lv_at hl 3 rfl) ?_
      refine lv_iconst (v := (1 : Int32)) hx hb dX2_findDenialOfItself_27 (by decide) ?_
      refine lv_iadd hx hb dX2_findDenialOfItself_28 ?_
      refine va_iald hx hb hK hP 3 1 rfl rfl (gd_in hm) dX2_findDenialOfItself_29 ?_
      have hm := gd_go hm
      refine lv_topi (fun v3 ev3 => ?_)
      have hm := lt_at ev3 hm
      refine lv_icmp_ge (tgt := 69) hx hb dX2_findDenialOfItself_30 (by decide) (fun hc => ?_) (fun hc => ?_)
      · have hm := if_t hc hm
        exact hE _ H locs ls (Option.some.inj hm).symm hP hD hS (lv_sub hl [] rfl)
      · have hm := if_f hc hm
        refine lv_aload_n hx hb dX2_findDenialOfItself_33 rfl (lv_at hl 2 rfl) ?_
        refine va_get (D := D) (ci := 4) (v := .ref o_kind_a) (C := RX4) (T := TX4) (N := 12) hx hb hts in_X4 hown hK hP 0 rfl rfl 0 (by decide) (hts _ kf_X2_76) (fun _ h9 => h9) rfl dX2_findDenialOfItself_34 ?_
        refine lv_iload_n hx hb dX2_findDenialOfItself_37 rfl (lv_at hl 0 rfl) ?_
        refine va_iald hx hb hK hP 1 1 rfl rfl (gd_in hm) dX2_findDenialOfItself_38 ?_
        have hm := gd_go hm
        refine lv_iconst (v := (2 : Int32)) hx hb dX2_findDenialOfItself_39 (by decide) ?_
        refine lv_icmp_ne (tgt := 63) hx hb dX2_findDenialOfItself_40 (by decide) (fun hc => ?_) (fun hc => ?_)
        · have hm := if_f hc hm
          obtain ⟨v4, ev4⟩ : ∃ y : Int32, y = y3 + (1 : Int32) := ⟨_, rfl⟩
          have hm := lt_at ev4 hm
          refine lv_iinc (v := v4) (lv' := [(3, .int v4), (2, .int w2), (0, .ref o), (1, .int w1)]) hx hb dX2_findDenialOfItself_63 hl (k := 0) rfl (by rw [ev4]; rfl) (by decide) rfl (fun ls hl => ?_)
          refine lv_goto (tgt := 21) hx hb dX2_findDenialOfItself_66 (by decide) ?_
          exact ih v4 z hm hE hR H locs ls hP hD hS (lv_sub hl [0, 1, 2, 3] rfl)
        · have hm := if_t hc hm
          refine lv_aload_n hx hb dX2_findDenialOfItself_43 rfl (lv_at hl 2 rfl) ?_
          refine va_get (D := D) (ci := 4) (v := .ref o_reach_a) (C := RX4) (T := TX4) (N := 12) hx hb hts in_X4 hown hK hP 0 rfl rfl 11 (by decide) (hts _ kf_X2_79) (fun _ h9 => h9) rfl dX2_findDenialOfItself_44 ?_
          refine lv_aload_n hx hb dX2_findDenialOfItself_47 rfl (lv_at hl 2 rfl) ?_
          refine va_get (D := D) (ci := 4) (v := .ref o_who_a) (C := RX4) (T := TX4) (N := 12) hx hb hts in_X4 hown hK hP 0 rfl rfl 2 (by decide) (hts _ kf_X2_64) (fun _ h9 => h9) rfl dX2_findDenialOfItself_48 ?_
          refine lv_iload_n hx hb dX2_findDenialOfItself_51 rfl (lv_at hl 0 rfl) ?_
          refine va_iald hx hb hK hP 2 1 rfl rfl (gd_in hm) dX2_findDenialOfItself_52 ?_
          have hm := gd_go hm
          refine va_iald hx hb hK hP 4 1 rfl rfl (gd_in hm) dX2_findDenialOfItself_53 ?_
          have hm := gd_go hm
          refine lv_topi (fun v5 ev5 => ?_)
          have hm := lt_at ev5 hm
          refine lv_iload_n hx hb dX2_findDenialOfItself_54 rfl (lv_at hl 1 rfl) ?_
          refine lv_ishr hx hb dX2_findDenialOfItself_55 ?_
          refine lv_iconst (v := (1 : Int32)) hx hb dX2_findDenialOfItself_56 (by decide) ?_
          refine lv_iand hx hb dX2_findDenialOfItself_57 ?_
          refine lv_if_eq (tgt := 63) hx hb dX2_findDenialOfItself_58 (by decide) (fun hc => ?_) (fun hc => ?_)
          · have hm := if_t hc hm
            obtain ⟨v6, ev6⟩ : ∃ y : Int32, y = y3 + (1 : Int32) := ⟨_, rfl⟩
            have hm := lt_at ev6 hm
            refine lv_iinc (v := v6) (lv' := [(3, .int v6), (2, .int w2), (0, .ref o), (1, .int w1)]) hx hb dX2_findDenialOfItself_63 hl (k := 0) rfl (by rw [ev6]; rfl) (by decide) rfl (fun ls hl => ?_)
            refine lv_goto (tgt := 21) hx hb dX2_findDenialOfItself_66 (by decide) ?_
            exact ih v6 z hm hE hR H locs ls hP hD hS (lv_sub hl [0, 1, 2, 3] rfl)
          · have hm := if_f hc hm
            refine lv_iload_n hx hb dX2_findDenialOfItself_61 rfl (lv_at hl 0 rfl) ?_
            have ho := hR _ (Option.some.inj hm).symm
            exact k_iret hx hb hr hlocks hK hP hD hS dX2_findDenialOfItself_62 hQ (by rw [← ho]) rfl
  unfold M_Inspector_findDenialOfItself at hm
  obtain ⟨H, eH⟩ : ∃ H, H = s.heap := ⟨_, rfl⟩
  obtain ⟨locs, el⟩ : ∃ x : List Loc, x = [] := ⟨_, rfl⟩
  have hP : va_P D vwCl [(o, .inr (4, [.ref o_kind_a, .ref o_place_a, .ref o_who_a, .ref o_width_a, .ref o_term_a, .ref o_start_a, .int o_size, .int o_rules, .ref o_sort_a, .ref o_arity_a, .ref o_stratum_a, .ref o_reach_a])), (o_kind_a, .inl (cI, 240, .inl o_kind)), (o_who_a, .inl (cI, 240, .inl o_who)), (o_start_a, .inl (cI, 241, .inl o_start)), (o_reach_a, .inl (cI, 10, .inl o_reach))] H := eH ▸ hP
  have hS : va_S A s.heap H locs := by rw [eH, el]; exact hS
  suffices hW : W p l e { frames := 0, cells := 0, slots := 0, locals := 0 } s m args below meth c H locs 0 0 Q (F0 m 0 ls []) by rw [eH, el] at hW; exact hW
  clear eH el
  refine lv_aload_n hx hb dX2_findDenialOfItself_0 rfl (lv_at hl 0 rfl) ?_
  refine va_get (D := D) (ci := 4) (v := .ref o_who_a) (C := RX4) (T := TX4) (N := 12) hx hb hts in_X4 hown hK hP 0 rfl rfl 2 (by decide) (hts _ kf_X2_64) (fun _ h9 => h9) rfl dX2_findDenialOfItself_1 ?_
  refine lv_aload_n hx hb dX2_findDenialOfItself_4 rfl (lv_at hl 0 rfl) ?_
  refine va_get (D := D) (ci := 4) (v := .ref o_start_a) (C := RX4) (T := TX4) (N := 12) hx hb hts in_X4 hown hK hP 0 rfl rfl 5 (by decide) (hts _ kf_X2_37) (fun _ h9 => h9) rfl dX2_findDenialOfItself_5 ?_
  refine lv_iload_n hx hb dX2_findDenialOfItself_8 rfl (lv_at hl 1 rfl) ?_
  refine va_iald hx hb hK hP 3 1 rfl rfl (gd_in hm) dX2_findDenialOfItself_9 ?_
  have hm := gd_go hm
  refine va_iald hx hb hK hP 2 1 rfl rfl (gd_in hm) dX2_findDenialOfItself_10 ?_
  have hm := gd_go hm
  refine lv_topi (fun v1 ev1 => ?_)
  have hm := lt_at ev1 hm
  refine lv_istore_n (lv' := [(2, .int v1), (0, .ref o), (1, .int x1)]) hx hb dX2_findDenialOfItself_11 rfl hl (by decide) rfl (fun ls hl => ?_)
  refine lv_aload_n hx hb dX2_findDenialOfItself_12 rfl (lv_at hl 1 rfl) ?_
  refine va_get (D := D) (ci := 4) (v := .ref o_start_a) (C := RX4) (T := TX4) (N := 12) hx hb hts in_X4 hown hK hP 0 rfl rfl 5 (by decide) (hts _ kf_X2_37) (fun _ h9 => h9) rfl dX2_findDenialOfItself_13 ?_
  refine lv_iload_n hx hb dX2_findDenialOfItself_16 rfl (lv_at hl 2 rfl) ?_
  refine va_iald hx hb hK hP 3 1 rfl rfl (gd_in hm) dX2_findDenialOfItself_17 ?_
  have hm := gd_go hm
  refine lv_iconst (v := (1 : Int32)) hx hb dX2_findDenialOfItself_18 (by decide) ?_
  refine lv_iadd hx hb dX2_findDenialOfItself_19 ?_
  refine lv_topi (fun v2 ev2 => ?_)
  have hm := lt_at ev2 hm
  refine lv_istore_n (lv' := [(3, .int v2), (2, .int v1), (0, .ref o), (1, .int x1)]) hx hb dX2_findDenialOfItself_20 rfl hl (by decide) rfl (fun ls hl => ?_)
  obtain ⟨z7, hz7, hm⟩ := bd_at hm
  refine L21 v1 x1 F v2 z7 hz7 (fun q8 H locs ls ez hP hD hS hl => ?_) (fun o ho => ?_) H locs ls hP hD hS (lv_sub hl [0, 1, 2, 3] rfl)
  · have hm := cs_l ez hm
    refine lv_iconst (v := (-1 : Int32)) hx hb dX2_findDenialOfItself_69 (by decide) ?_
    have ho := Option.some.inj hm
    exact k_iret hx hb hr hlocks hK hP hD hS dX2_findDenialOfItself_70 hQ (by rw [← ho]) rfl
  · have hm := cs_r ho hm
    exact Option.some.inj hm
noncomputable def M_Inspector_findInRule (F : Nat) (o_kind : Nat → Int32) (o_who : Nat → Int32) (o_width : Nat → Int32) (o_term : Nat → Int32) (o_start : Nat → Int32) (o_arity : Nat → Int32) (o_reach : Nat → Int32) (x0 : Int32) (x2 : Int32) : Option ((Int32)) := gd_ x2 241 <| lt_ ((o_start x2.toNatClampNeg)) fun v1 => if x0 = (2 : Int32) then (bd_ (M_Inspector_findOtherArity F o_kind o_who o_width o_start o_arity x2) fun z2 => some z2) else if x0 = (3 : Int32) then (bd_ (M_Inspector_isTooLarge F o_width o_term o_start x2) fun z3 => if z3 = 0 then (some (-1 : Int32)) else (some v1)) else if x0 = (4 : Int32) then (bd_ (M_Inspector_hasUnboundVariable F o_kind o_width o_term o_start x2) fun z4 => if z4 = 0 then (some (-1 : Int32)) else (some v1)) else (bd_ (M_Inspector_findDenialOfItself F o_kind o_who o_start o_reach x2) fun z5 => some z5)
set_option maxRecDepth 100000 in
set_option maxHeartbeats 4000000 in
theorem K_Inspector_findInRule (l : Launch) (D : va_G) (cB cI cZ cJ : ClassId) (o : Nat) (o_kind_a : Nat) (o_place_a : Nat) (o_who_a : Nat) (o_width_a : Nat) (o_term_a : Nat) (o_start_a : Nat) (o_sort_a : Nat) (o_arity_a : Nat) (o_stratum_a : Nat) (o_reach_a : Nat) (o_size : Int32) (o_rules : Int32) (o_kind : Nat → Int32) (o_who : Nat → Int32) (o_width : Nat → Int32) (o_term : Nat → Int32) (o_start : Nat → Int32) (o_arity : Nat → Int32) (o_reach : Nat → Int32) (x0 : Int32) (x2 : Int32) (F : Nat) (out : (Int32)) (hm : M_Inspector_findInRule F o_kind o_who o_width o_term o_start o_arity o_reach x0 x2 = some out) : KC l yX2_findInRule cX2_findInRule 4 (some .int) { frames := 2, cells := 0, slots := 0, locals := 48 } D (kTy cB cI cZ cJ) [.int x0, .ref o, .int x2] [(o, .inr (4, [.ref o_kind_a, .ref o_place_a, .ref o_who_a, .ref o_width_a, .ref o_term_a, .ref o_start_a, .int o_size, .int o_rules, .ref o_sort_a, .ref o_arity_a, .ref o_stratum_a, .ref o_reach_a])), (o_kind_a, .inl (cI, 240, .inl o_kind)), (o_who_a, .inl (cI, 240, .inl o_who)), (o_width_a, .inl (cI, 240, .inl o_width)), (o_term_a, .inl (cI, 720, .inl o_term)), (o_start_a, .inl (cI, 241, .inl o_start)), (o_arity_a, .inl (cI, 10, .inl o_arity)), (o_reach_a, .inl (cI, 10, .inl o_reach))] (some (.int out)) [(o, .inr (4, [.ref o_kind_a, .ref o_place_a, .ref o_who_a, .ref o_width_a, .ref o_term_a, .ref o_start_a, .int o_size, .int o_rules, .ref o_sort_a, .ref o_arity_a, .ref o_stratum_a, .ref o_reach_a])), (o_kind_a, .inl (cI, 240, .inl o_kind)), (o_who_a, .inl (cI, 240, .inl o_who)), (o_width_a, .inl (cI, 240, .inl o_width)), (o_term_a, .inl (cI, 720, .inl o_term)), (o_start_a, .inl (cI, 241, .inl o_start)), (o_arity_a, .inl (cI, 10, .inl o_arity)), (o_reach_a, .inl (cI, 10, .inl o_reach))] := by
  refine KC.of (by decide +kernel) (Nat.le_of_ble_eq_true rfl) ?_
  intro p e s m below meth c A ls args Q hQ CX hA hK hP hD hl
  obtain ⟨hx, hb, hr, hml, hown, hts, hlocks⟩ := CX
  have hown : s.vm.findClass RX2 = some m.cls := hown
  have hS : va_S A s.heap s.heap [] := va_S.rf
  have hl : lv_has ls 4 [(0, .int x0), (1, .ref o), (2, .int x2)] := hl
  unfold M_Inspector_findInRule at hm
  obtain ⟨H, eH⟩ : ∃ H, H = s.heap := ⟨_, rfl⟩
  obtain ⟨locs, el⟩ : ∃ x : List Loc, x = [] := ⟨_, rfl⟩
  have hP : va_P D vwCl [(o, .inr (4, [.ref o_kind_a, .ref o_place_a, .ref o_who_a, .ref o_width_a, .ref o_term_a, .ref o_start_a, .int o_size, .int o_rules, .ref o_sort_a, .ref o_arity_a, .ref o_stratum_a, .ref o_reach_a])), (o_kind_a, .inl (cI, 240, .inl o_kind)), (o_who_a, .inl (cI, 240, .inl o_who)), (o_width_a, .inl (cI, 240, .inl o_width)), (o_term_a, .inl (cI, 720, .inl o_term)), (o_start_a, .inl (cI, 241, .inl o_start)), (o_arity_a, .inl (cI, 10, .inl o_arity)), (o_reach_a, .inl (cI, 10, .inl o_reach))] H := eH ▸ hP
  have hS : va_S A s.heap H locs := by rw [eH, el]; exact hS
  suffices hW : W p l e { frames := 2, cells := 0, slots := 0, locals := 48 } s m args below meth c H locs 0 0 Q (F0 m 0 ls []) by rw [eH, el] at hW; exact hW
  clear eH el
  refine lv_aload_n hx hb dX2_findInRule_0 rfl (lv_at hl 1 rfl) ?_
  refine va_get (D := D) (ci := 4) (v := .ref o_start_a) (C := RX4) (T := TX4) (N := 12) hx hb hts in_X4 hown hK hP 0 rfl rfl 5 (by decide) (hts _ kf_X2_37) (fun _ h9 => h9) rfl dX2_findInRule_1 ?_
  refine lv_iload_n hx hb dX2_findInRule_4 rfl (lv_at hl 2 rfl) ?_
  refine va_iald hx hb hK hP 5 1 rfl rfl (gd_in hm) dX2_findInRule_5 ?_
  have hm := gd_go hm
  refine lv_topi (fun v1 ev1 => ?_)
  have hm := lt_at ev1 hm
  refine lv_istore_n (lv' := [(3, .int v1), (0, .int x0), (1, .ref o), (2, .int x2)]) hx hb dX2_findInRule_6 rfl hl (by decide) rfl (fun ls hl => ?_)
  refine lv_iload_n hx hb dX2_findInRule_7 rfl (lv_at hl 1 rfl) ?_
  by_cases hs0 : x0 = (2 : Int32)
  · have hm := if_t hs0 hm
    refine k_tIn (tgt := 36) hx hb (2 : Int32) hs0 dX2_findInRule_8 (by decide) rfl (by decide) ?_
    refine lv_aload_n hx hb dX2_findInRule_36 rfl (lv_at hl 2 rfl) ?_
    refine lv_iload_n hx hb dX2_findInRule_37 rfl (lv_at hl 3 rfl) ?_
    obtain ⟨z2, hz2, hm⟩ := bd_at hm
    refine k_callS (As := [.ref o, .int x2]) (rest := []) (wr := [(o_term_a, .inl (cI, 720, .inl o_term)), (o_reach_a, .inl (cI, 10, .inl o_reach))]) (ws1 := [(o, .inr (4, [.ref o_kind_a, .ref o_place_a, .ref o_who_a, .ref o_width_a, .ref o_term_a, .ref o_start_a, .int o_size, .int o_rules, .ref o_sort_a, .ref o_arity_a, .ref o_stratum_a, .ref o_reach_a])), (o_kind_a, .inl (cI, 240, .inl o_kind)), (o_who_a, .inl (cI, 240, .inl o_who)), (o_width_a, .inl (cI, 240, .inl o_width)), (o_term_a, .inl (cI, 720, .inl o_term)), (o_start_a, .inl (cI, 241, .inl o_start)), (o_arity_a, .inl (cI, 10, .inl o_arity)), (o_reach_a, .inl (cI, 10, .inl o_reach))]) [0, 1, 2, 3, 5, 6] [4, 7] [2, 3, 4, 5, 0, 6, 7, 1] (K_Inspector_findOtherArity l D cB cI cZ cJ o o_kind_a o_place_a o_who_a o_width_a o_term_a o_start_a o_sort_a o_arity_a o_stratum_a o_reach_a o_size o_rules o_kind o_who o_width o_start o_arity x2 F z2 hz2) ms_X2_findOtherArity km_X2_40 hx hb hml hown hts hK hP hD hS hA hl.1 ⟨Nat.zero_le _, Nat.zero_le _⟩ dX2_findInRule_38 rfl rfl (Nat.le_of_ble_eq_true rfl) ⟨⟨rfl, rfl⟩, Nat.le_of_ble_eq_true rfl, Nat.le_of_ble_eq_true rfl⟩ rfl rfl (by decide) rfl (fun H locs hP hD hS => ?_)
    have hP : va_P D vwCl [(o, .inr (4, [.ref o_kind_a, .ref o_place_a, .ref o_who_a, .ref o_width_a, .ref o_term_a, .ref o_start_a, .int o_size, .int o_rules, .ref o_sort_a, .ref o_arity_a, .ref o_stratum_a, .ref o_reach_a])), (o_kind_a, .inl (cI, 240, .inl o_kind)), (o_who_a, .inl (cI, 240, .inl o_who)), (o_width_a, .inl (cI, 240, .inl o_width)), (o_term_a, .inl (cI, 720, .inl o_term)), (o_start_a, .inl (cI, 241, .inl o_start)), (o_arity_a, .inl (cI, 10, .inl o_arity)), (o_reach_a, .inl (cI, 10, .inl o_reach))] H := hP
    have hD : va_D A [(o, .inr (4, [.ref o_kind_a, .ref o_place_a, .ref o_who_a, .ref o_width_a, .ref o_term_a, .ref o_start_a, .int o_size, .int o_rules, .ref o_sort_a, .ref o_arity_a, .ref o_stratum_a, .ref o_reach_a])), (o_kind_a, .inl (cI, 240, .inl o_kind)), (o_who_a, .inl (cI, 240, .inl o_who)), (o_width_a, .inl (cI, 240, .inl o_width)), (o_term_a, .inl (cI, 720, .inl o_term)), (o_start_a, .inl (cI, 241, .inl o_start)), (o_arity_a, .inl (cI, 10, .inl o_arity)), (o_reach_a, .inl (cI, 10, .inl o_reach))] := hD
    have ho := Option.some.inj hm
    exact k_iret hx hb hr hlocks hK hP hD hS dX2_findInRule_41 hQ (by rw [← ho]) rfl
  · have hm := if_f hs0 hm
    by_cases hs1 : x0 = (3 : Int32)
    · have hm := if_t hs1 hm
      refine k_tIn (tgt := 42) hx hb (3 : Int32) hs1 dX2_findInRule_8 (by decide) rfl (by decide) ?_
      refine lv_aload_n hx hb dX2_findInRule_42 rfl (lv_at hl 2 rfl) ?_
      refine lv_iload_n hx hb dX2_findInRule_43 rfl (lv_at hl 3 rfl) ?_
      obtain ⟨z3, hz3, hm⟩ := bd_at hm
      refine k_callS (As := [.ref o, .int x2]) (rest := []) (wr := [(o_kind_a, .inl (cI, 240, .inl o_kind)), (o_who_a, .inl (cI, 240, .inl o_who)), (o_arity_a, .inl (cI, 10, .inl o_arity)), (o_reach_a, .inl (cI, 10, .inl o_reach))]) (ws1 := [(o, .inr (4, [.ref o_kind_a, .ref o_place_a, .ref o_who_a, .ref o_width_a, .ref o_term_a, .ref o_start_a, .int o_size, .int o_rules, .ref o_sort_a, .ref o_arity_a, .ref o_stratum_a, .ref o_reach_a])), (o_kind_a, .inl (cI, 240, .inl o_kind)), (o_who_a, .inl (cI, 240, .inl o_who)), (o_width_a, .inl (cI, 240, .inl o_width)), (o_term_a, .inl (cI, 720, .inl o_term)), (o_start_a, .inl (cI, 241, .inl o_start)), (o_arity_a, .inl (cI, 10, .inl o_arity)), (o_reach_a, .inl (cI, 10, .inl o_reach))]) [0, 3, 4, 5] [1, 2, 6, 7] [4, 0, 1, 5, 6, 7, 2, 3] (K_Inspector_isTooLarge l D cB cI cZ cJ o o_kind_a o_place_a o_who_a o_width_a o_term_a o_start_a o_sort_a o_arity_a o_stratum_a o_reach_a o_size o_rules o_width o_term o_start x2 F z3 hz3) ms_X2_isTooLarge km_X2_44 hx hb hml hown hts hK hP hD hS hA hl.1 ⟨Nat.zero_le _, Nat.zero_le _⟩ dX2_findInRule_44 rfl rfl (Nat.le_of_ble_eq_true rfl) ⟨⟨rfl, rfl⟩, Nat.le_of_ble_eq_true rfl, Nat.le_of_ble_eq_true rfl⟩ rfl rfl (by decide) rfl (fun H locs hP hD hS => ?_)
      have hP : va_P D vwCl [(o, .inr (4, [.ref o_kind_a, .ref o_place_a, .ref o_who_a, .ref o_width_a, .ref o_term_a, .ref o_start_a, .int o_size, .int o_rules, .ref o_sort_a, .ref o_arity_a, .ref o_stratum_a, .ref o_reach_a])), (o_kind_a, .inl (cI, 240, .inl o_kind)), (o_who_a, .inl (cI, 240, .inl o_who)), (o_width_a, .inl (cI, 240, .inl o_width)), (o_term_a, .inl (cI, 720, .inl o_term)), (o_start_a, .inl (cI, 241, .inl o_start)), (o_arity_a, .inl (cI, 10, .inl o_arity)), (o_reach_a, .inl (cI, 10, .inl o_reach))] H := hP
      have hD : va_D A [(o, .inr (4, [.ref o_kind_a, .ref o_place_a, .ref o_who_a, .ref o_width_a, .ref o_term_a, .ref o_start_a, .int o_size, .int o_rules, .ref o_sort_a, .ref o_arity_a, .ref o_stratum_a, .ref o_reach_a])), (o_kind_a, .inl (cI, 240, .inl o_kind)), (o_who_a, .inl (cI, 240, .inl o_who)), (o_width_a, .inl (cI, 240, .inl o_width)), (o_term_a, .inl (cI, 720, .inl o_term)), (o_start_a, .inl (cI, 241, .inl o_start)), (o_arity_a, .inl (cI, 10, .inl o_arity)), (o_reach_a, .inl (cI, 10, .inl o_reach))] := hD
      refine lv_if_eq (tgt := 54) hx hb dX2_findInRule_47 (by decide) (fun hc => ?_) (fun hc => ?_)
      · have hm := if_t hc hm
        refine lv_iconst (v := (-1 : Int32)) hx hb dX2_findInRule_54 (by decide) ?_
        have ho := Option.some.inj hm
        exact k_iret hx hb hr hlocks hK hP hD hS dX2_findInRule_55 hQ (by rw [← ho]) rfl
      · have hm := if_f hc hm
        refine lv_iload_n hx hb dX2_findInRule_50 rfl (lv_at hl 0 rfl) ?_
        refine lv_goto (tgt := 55) hx hb dX2_findInRule_51 (by decide) ?_
        have ho := Option.some.inj hm
        exact k_iret hx hb hr hlocks hK hP hD hS dX2_findInRule_55 hQ (by rw [← ho]) rfl
    · have hm := if_f hs1 hm
      by_cases hs2 : x0 = (4 : Int32)
      · have hm := if_t hs2 hm
        refine k_tIn (tgt := 56) hx hb (4 : Int32) hs2 dX2_findInRule_8 (by decide) rfl (by decide) ?_
        refine lv_aload_n hx hb dX2_findInRule_56 rfl (lv_at hl 2 rfl) ?_
        refine lv_iload_n hx hb dX2_findInRule_57 rfl (lv_at hl 3 rfl) ?_
        obtain ⟨z4, hz4, hm⟩ := bd_at hm
        refine k_callS (As := [.ref o, .int x2]) (rest := []) (wr := [(o_who_a, .inl (cI, 240, .inl o_who)), (o_arity_a, .inl (cI, 10, .inl o_arity)), (o_reach_a, .inl (cI, 10, .inl o_reach))]) (ws1 := [(o, .inr (4, [.ref o_kind_a, .ref o_place_a, .ref o_who_a, .ref o_width_a, .ref o_term_a, .ref o_start_a, .int o_size, .int o_rules, .ref o_sort_a, .ref o_arity_a, .ref o_stratum_a, .ref o_reach_a])), (o_kind_a, .inl (cI, 240, .inl o_kind)), (o_who_a, .inl (cI, 240, .inl o_who)), (o_width_a, .inl (cI, 240, .inl o_width)), (o_term_a, .inl (cI, 720, .inl o_term)), (o_start_a, .inl (cI, 241, .inl o_start)), (o_arity_a, .inl (cI, 10, .inl o_arity)), (o_reach_a, .inl (cI, 10, .inl o_reach))]) [0, 1, 3, 4, 5] [2, 6, 7] [3, 4, 0, 5, 6, 7, 1, 2] (K_Inspector_hasUnboundVariable l D cB cI cZ cJ o o_kind_a o_place_a o_who_a o_width_a o_term_a o_start_a o_sort_a o_arity_a o_stratum_a o_reach_a o_size o_rules o_kind o_width o_term o_start x2 F z4 hz4) ms_X2_hasUnboundVariable km_X2_48 hx hb hml hown hts hK hP hD hS hA hl.1 ⟨Nat.zero_le _, Nat.zero_le _⟩ dX2_findInRule_58 rfl rfl (Nat.le_of_ble_eq_true rfl) ⟨⟨rfl, rfl⟩, Nat.le_of_ble_eq_true rfl, Nat.le_of_ble_eq_true rfl⟩ rfl rfl (by decide) rfl (fun H locs hP hD hS => ?_)
        have hP : va_P D vwCl [(o, .inr (4, [.ref o_kind_a, .ref o_place_a, .ref o_who_a, .ref o_width_a, .ref o_term_a, .ref o_start_a, .int o_size, .int o_rules, .ref o_sort_a, .ref o_arity_a, .ref o_stratum_a, .ref o_reach_a])), (o_kind_a, .inl (cI, 240, .inl o_kind)), (o_who_a, .inl (cI, 240, .inl o_who)), (o_width_a, .inl (cI, 240, .inl o_width)), (o_term_a, .inl (cI, 720, .inl o_term)), (o_start_a, .inl (cI, 241, .inl o_start)), (o_arity_a, .inl (cI, 10, .inl o_arity)), (o_reach_a, .inl (cI, 10, .inl o_reach))] H := hP
        have hD : va_D A [(o, .inr (4, [.ref o_kind_a, .ref o_place_a, .ref o_who_a, .ref o_width_a, .ref o_term_a, .ref o_start_a, .int o_size, .int o_rules, .ref o_sort_a, .ref o_arity_a, .ref o_stratum_a, .ref o_reach_a])), (o_kind_a, .inl (cI, 240, .inl o_kind)), (o_who_a, .inl (cI, 240, .inl o_who)), (o_width_a, .inl (cI, 240, .inl o_width)), (o_term_a, .inl (cI, 720, .inl o_term)), (o_start_a, .inl (cI, 241, .inl o_start)), (o_arity_a, .inl (cI, 10, .inl o_arity)), (o_reach_a, .inl (cI, 10, .inl o_reach))] := hD
        refine lv_if_eq (tgt := 68) hx hb dX2_findInRule_61 (by decide) (fun hc => ?_) (fun hc => ?_)
        · have hm := if_t hc hm
          refine lv_iconst (v := (-1 : Int32)) hx hb dX2_findInRule_68 (by decide) ?_
          have ho := Option.some.inj hm
          exact k_iret hx hb hr hlocks hK hP hD hS dX2_findInRule_69 hQ (by rw [← ho]) rfl
        · have hm := if_f hc hm
          refine lv_iload_n hx hb dX2_findInRule_64 rfl (lv_at hl 0 rfl) ?_
          refine lv_goto (tgt := 69) hx hb dX2_findInRule_65 (by decide) ?_
          have ho := Option.some.inj hm
          exact k_iret hx hb hr hlocks hK hP hD hS dX2_findInRule_69 hQ (by rw [← ho]) rfl
      · have hm := if_f hs2 hm
        refine k_tOut (tgt := 70) hx hb dX2_findInRule_8 (fun k h1 h2 => ?_) (by decide) ?_
        · have h3 : k = 2 ∨ k = 3 ∨ k = 4 := by omega
          rcases h3 with rfl | rfl | rfl
          · exact hs0
          · exact hs1
          · exact hs2
        · have hm := hm
          refine lv_aload_n hx hb dX2_findInRule_70 rfl (lv_at hl 2 rfl) ?_
          refine lv_iload_n hx hb dX2_findInRule_71 rfl (lv_at hl 3 rfl) ?_
          obtain ⟨z5, hz5, hm⟩ := bd_at hm
          refine k_callS (As := [.ref o, .int x2]) (rest := []) (wr := [(o_width_a, .inl (cI, 240, .inl o_width)), (o_term_a, .inl (cI, 720, .inl o_term)), (o_arity_a, .inl (cI, 10, .inl o_arity))]) (ws1 := [(o, .inr (4, [.ref o_kind_a, .ref o_place_a, .ref o_who_a, .ref o_width_a, .ref o_term_a, .ref o_start_a, .int o_size, .int o_rules, .ref o_sort_a, .ref o_arity_a, .ref o_stratum_a, .ref o_reach_a])), (o_kind_a, .inl (cI, 240, .inl o_kind)), (o_who_a, .inl (cI, 240, .inl o_who)), (o_width_a, .inl (cI, 240, .inl o_width)), (o_term_a, .inl (cI, 720, .inl o_term)), (o_start_a, .inl (cI, 241, .inl o_start)), (o_arity_a, .inl (cI, 10, .inl o_arity)), (o_reach_a, .inl (cI, 10, .inl o_reach))]) [0, 1, 2, 5, 7] [3, 4, 6] [3, 4, 5, 0, 1, 6, 2, 7] (K_Inspector_findDenialOfItself l D cB cI cZ cJ o o_kind_a o_place_a o_who_a o_width_a o_term_a o_start_a o_sort_a o_arity_a o_stratum_a o_reach_a o_size o_rules o_kind o_who o_start o_reach x2 F z5 hz5) ms_X2_findDenialOfItself km_X2_51 hx hb hml hown hts hK hP hD hS hA hl.1 ⟨Nat.zero_le _, Nat.zero_le _⟩ dX2_findInRule_72 rfl rfl (Nat.le_of_ble_eq_true rfl) ⟨⟨rfl, rfl⟩, Nat.le_of_ble_eq_true rfl, Nat.le_of_ble_eq_true rfl⟩ rfl rfl (by decide) rfl (fun H locs hP hD hS => ?_)
          have hP : va_P D vwCl [(o, .inr (4, [.ref o_kind_a, .ref o_place_a, .ref o_who_a, .ref o_width_a, .ref o_term_a, .ref o_start_a, .int o_size, .int o_rules, .ref o_sort_a, .ref o_arity_a, .ref o_stratum_a, .ref o_reach_a])), (o_kind_a, .inl (cI, 240, .inl o_kind)), (o_who_a, .inl (cI, 240, .inl o_who)), (o_width_a, .inl (cI, 240, .inl o_width)), (o_term_a, .inl (cI, 720, .inl o_term)), (o_start_a, .inl (cI, 241, .inl o_start)), (o_arity_a, .inl (cI, 10, .inl o_arity)), (o_reach_a, .inl (cI, 10, .inl o_reach))] H := hP
          have hD : va_D A [(o, .inr (4, [.ref o_kind_a, .ref o_place_a, .ref o_who_a, .ref o_width_a, .ref o_term_a, .ref o_start_a, .int o_size, .int o_rules, .ref o_sort_a, .ref o_arity_a, .ref o_stratum_a, .ref o_reach_a])), (o_kind_a, .inl (cI, 240, .inl o_kind)), (o_who_a, .inl (cI, 240, .inl o_who)), (o_width_a, .inl (cI, 240, .inl o_width)), (o_term_a, .inl (cI, 720, .inl o_term)), (o_start_a, .inl (cI, 241, .inl o_start)), (o_arity_a, .inl (cI, 10, .inl o_arity)), (o_reach_a, .inl (cI, 10, .inl o_reach))] := hD
          have ho := Option.some.inj hm
          exact k_iret hx hb hr hlocks hK hP hD hS dX2_findInRule_75 hQ (by rw [← ho]) rfl
noncomputable def M_Inspector_findFirst_L2 (F : Nat) (o_kind : Nat → Int32) (o_who : Nat → Int32) (o_width : Nat → Int32) (o_term : Nat → Int32) (o_start : Nat → Int32) (o_rules : Int32) (o_arity : Nat → Int32) (o_reach : Nat → Int32) (w0 : Int32) : Nat → Int32 → Option ((Unit) ⊕ ((Int32)))
  | 0, _ => none
  | n + 1, y2 => if o_rules ≤ y2 then (some (.inl ())) else (bd_ (M_Inspector_findInRule F o_kind o_who o_width o_term o_start o_arity o_reach w0 y2) fun z1 => if z1 = (-1 : Int32) then (lt_ (y2 + (1 : Int32)) fun v2 => M_Inspector_findFirst_L2 F o_kind o_who o_width o_term o_start o_rules o_arity o_reach w0 n v2) else (some (.inr z1)))
noncomputable def M_Inspector_findFirst (F : Nat) (o_kind : Nat → Int32) (o_who : Nat → Int32) (o_width : Nat → Int32) (o_term : Nat → Int32) (o_start : Nat → Int32) (o_rules : Int32) (o_arity : Nat → Int32) (o_reach : Nat → Int32) (x0 : Int32) : Option ((Int32)) := bd_ (M_Inspector_findFirst_L2 F o_kind o_who o_width o_term o_start o_rules o_arity o_reach x0 F (0 : Int32)) fun z3 => cs_ z3 (fun q4 => some (-1 : Int32)) (fun o => some o)
set_option maxRecDepth 100000 in
set_option maxHeartbeats 4000000 in
theorem K_Inspector_findFirst (l : Launch) (D : va_G) (cB cI cZ cJ : ClassId) (o : Nat) (o_kind_a : Nat) (o_place_a : Nat) (o_who_a : Nat) (o_width_a : Nat) (o_term_a : Nat) (o_start_a : Nat) (o_sort_a : Nat) (o_arity_a : Nat) (o_stratum_a : Nat) (o_reach_a : Nat) (o_size : Int32) (o_rules : Int32) (o_kind : Nat → Int32) (o_who : Nat → Int32) (o_width : Nat → Int32) (o_term : Nat → Int32) (o_start : Nat → Int32) (o_arity : Nat → Int32) (o_reach : Nat → Int32) (x0 : Int32) (F : Nat) (out : (Int32)) (hm : M_Inspector_findFirst F o_kind o_who o_width o_term o_start o_rules o_arity o_reach x0 = some out) : KC l yX2_findFirst cX2_findFirst 4 (some .int) { frames := 3, cells := 0, slots := 0, locals := 71 } D (kTy cB cI cZ cJ) [.int x0, .ref o] [(o, .inr (4, [.ref o_kind_a, .ref o_place_a, .ref o_who_a, .ref o_width_a, .ref o_term_a, .ref o_start_a, .int o_size, .int o_rules, .ref o_sort_a, .ref o_arity_a, .ref o_stratum_a, .ref o_reach_a])), (o_kind_a, .inl (cI, 240, .inl o_kind)), (o_who_a, .inl (cI, 240, .inl o_who)), (o_width_a, .inl (cI, 240, .inl o_width)), (o_term_a, .inl (cI, 720, .inl o_term)), (o_start_a, .inl (cI, 241, .inl o_start)), (o_arity_a, .inl (cI, 10, .inl o_arity)), (o_reach_a, .inl (cI, 10, .inl o_reach))] (some (.int out)) [(o, .inr (4, [.ref o_kind_a, .ref o_place_a, .ref o_who_a, .ref o_width_a, .ref o_term_a, .ref o_start_a, .int o_size, .int o_rules, .ref o_sort_a, .ref o_arity_a, .ref o_stratum_a, .ref o_reach_a])), (o_kind_a, .inl (cI, 240, .inl o_kind)), (o_who_a, .inl (cI, 240, .inl o_who)), (o_width_a, .inl (cI, 240, .inl o_width)), (o_term_a, .inl (cI, 720, .inl o_term)), (o_start_a, .inl (cI, 241, .inl o_start)), (o_arity_a, .inl (cI, 10, .inl o_arity)), (o_reach_a, .inl (cI, 10, .inl o_reach))] := by
  refine KC.of (by decide +kernel) (Nat.le_of_ble_eq_true rfl) ?_
  intro p e s m below meth c A ls args Q hQ CX hA hK hP hD hl
  obtain ⟨hx, hb, hr, hml, hown, hts, hlocks⟩ := CX
  have hown : s.vm.findClass RX2 = some m.cls := hown
  have hS : va_S A s.heap s.heap [] := va_S.rf
  have hl : lv_has ls 4 [(0, .int x0), (1, .ref o)] := hl
  have L2 : ∀ (w0 : Int32) (n : Nat) (y2 : Int32) (z : ((Unit) ⊕ ((Int32)))), M_Inspector_findFirst_L2 F o_kind o_who o_width o_term o_start o_rules o_arity o_reach w0 n y2 = some z →
      (∀ (q : Unit) (H : Heap) (locs : List Loc) (ls : Array Slot), z = .inl q → va_P D vwCl [(o, .inr (4, [.ref o_kind_a, .ref o_place_a, .ref o_who_a, .ref o_width_a, .ref o_term_a, .ref o_start_a, .int o_size, .int o_rules, .ref o_sort_a, .ref o_arity_a, .ref o_stratum_a, .ref o_reach_a])), (o_kind_a, .inl (cI, 240, .inl o_kind)), (o_who_a, .inl (cI, 240, .inl o_who)), (o_width_a, .inl (cI, 240, .inl o_width)), (o_term_a, .inl (cI, 720, .inl o_term)), (o_start_a, .inl (cI, 241, .inl o_start)), (o_arity_a, .inl (cI, 10, .inl o_arity)), (o_reach_a, .inl (cI, 10, .inl o_reach))] H → va_D A [(o, .inr (4, [.ref o_kind_a, .ref o_place_a, .ref o_who_a, .ref o_width_a, .ref o_term_a, .ref o_start_a, .int o_size, .int o_rules, .ref o_sort_a, .ref o_arity_a, .ref o_stratum_a, .ref o_reach_a])), (o_kind_a, .inl (cI, 240, .inl o_kind)), (o_who_a, .inl (cI, 240, .inl o_who)), (o_width_a, .inl (cI, 240, .inl o_width)), (o_term_a, .inl (cI, 720, .inl o_term)), (o_start_a, .inl (cI, 241, .inl o_start)), (o_arity_a, .inl (cI, 10, .inl o_arity)), (o_reach_a, .inl (cI, 10, .inl o_reach))] → va_S A s.heap H locs → lv_has ls 4 [] → W p l e { frames := 3, cells := 0, slots := 0, locals := 71 } s m args below meth c H locs 0 0 Q (F0 m 30 ls [])) →
      (∀ o, z = .inr o → o = out) →
      ∀ (H : Heap) (locs : List Loc) (ls : Array Slot), va_P D vwCl [(o, .inr (4, [.ref o_kind_a, .ref o_place_a, .ref o_who_a, .ref o_width_a, .ref o_term_a, .ref o_start_a, .int o_size, .int o_rules, .ref o_sort_a, .ref o_arity_a, .ref o_stratum_a, .ref o_reach_a])), (o_kind_a, .inl (cI, 240, .inl o_kind)), (o_who_a, .inl (cI, 240, .inl o_who)), (o_width_a, .inl (cI, 240, .inl o_width)), (o_term_a, .inl (cI, 720, .inl o_term)), (o_start_a, .inl (cI, 241, .inl o_start)), (o_arity_a, .inl (cI, 10, .inl o_arity)), (o_reach_a, .inl (cI, 10, .inl o_reach))] H → va_D A [(o, .inr (4, [.ref o_kind_a, .ref o_place_a, .ref o_who_a, .ref o_width_a, .ref o_term_a, .ref o_start_a, .int o_size, .int o_rules, .ref o_sort_a, .ref o_arity_a, .ref o_stratum_a, .ref o_reach_a])), (o_kind_a, .inl (cI, 240, .inl o_kind)), (o_who_a, .inl (cI, 240, .inl o_who)), (o_width_a, .inl (cI, 240, .inl o_width)), (o_term_a, .inl (cI, 720, .inl o_term)), (o_start_a, .inl (cI, 241, .inl o_start)), (o_arity_a, .inl (cI, 10, .inl o_arity)), (o_reach_a, .inl (cI, 10, .inl o_reach))] → va_S A s.heap H locs → lv_has ls 4 [(2, .int y2), (0, .int w0), (1, .ref o)] → W p l e { frames := 3, cells := 0, slots := 0, locals := 71 } s m args below meth c H locs 0 0 Q (F0 m 2 ls []) := by
    intro w0 n
    induction n with
    | zero => intro y2 z hm; unfold M_Inspector_findFirst_L2 at hm; cases hm
    | succ n ih =>
      intro y2 z hm hE hR H locs ls hP hD hS hl
      unfold M_Inspector_findFirst_L2 at hm
      refine lv_iload_n hx hb dX2_findFirst_2 rfl (lv_at hl 0 rfl) ?_
      refine lv_aload_n hx hb dX2_findFirst_3 rfl (lv_at hl 2 rfl) ?_
      refine va_get (D := D) (ci := 4) (v := .int o_rules) (C := RX4) (T := TX4) (N := 12) hx hb hts in_X4 hown hK hP 0 rfl rfl 7 (by decide) (hts _ kf_X2_30) (fun _ h9 => h9) rfl dX2_findFirst_4 ?_
      refine lv_icmp_ge (tgt := 30) hx hb dX2_findFirst_7 (by decide) (fun hc => ?_) (fun hc => ?_)
      · have hm := if_t hc hm
        exact hE _ H locs ls (Option.some.inj hm).symm hP hD hS (lv_sub hl [] rfl)
      · have hm := if_f hc hm
        refine lv_iload_n hx hb dX2_findFirst_10 rfl (lv_at hl 1 rfl) ?_
        refine lv_aload_n hx hb dX2_findFirst_11 rfl (lv_at hl 2 rfl) ?_
        refine lv_iload_n hx hb dX2_findFirst_12 rfl (lv_at hl 0 rfl) ?_
        obtain ⟨z1, hz1, hm⟩ := bd_at hm
        refine k_callS (As := [.int w0, .ref o, .int y2]) (rest := []) (wr := []) (ws1 := [(o, .inr (4, [.ref o_kind_a, .ref o_place_a, .ref o_who_a, .ref o_width_a, .ref o_term_a, .ref o_start_a, .int o_size, .int o_rules, .ref o_sort_a, .ref o_arity_a, .ref o_stratum_a, .ref o_reach_a])), (o_kind_a, .inl (cI, 240, .inl o_kind)), (o_who_a, .inl (cI, 240, .inl o_who)), (o_width_a, .inl (cI, 240, .inl o_width)), (o_term_a, .inl (cI, 720, .inl o_term)), (o_start_a, .inl (cI, 241, .inl o_start)), (o_arity_a, .inl (cI, 10, .inl o_arity)), (o_reach_a, .inl (cI, 10, .inl o_reach))]) [0, 1, 2, 3, 4, 5, 6, 7] [] [0, 1, 2, 3, 4, 5, 6, 7] (K_Inspector_findInRule l D cB cI cZ cJ o o_kind_a o_place_a o_who_a o_width_a o_term_a o_start_a o_sort_a o_arity_a o_stratum_a o_reach_a o_size o_rules o_kind o_who o_width o_term o_start o_arity o_reach w0 y2 F z1 hz1) ms_X2_findInRule km_X2_33 hx hb hml hown hts hK hP hD hS hA hl.1 ⟨Nat.zero_le _, Nat.zero_le _⟩ dX2_findFirst_13 rfl rfl (Nat.le_of_ble_eq_true rfl) ⟨⟨rfl, rfl⟩, Nat.le_of_ble_eq_true rfl, Nat.le_of_ble_eq_true rfl⟩ rfl rfl (by decide) rfl (fun H locs hP hD hS => ?_)
        have hP : va_P D vwCl [(o, .inr (4, [.ref o_kind_a, .ref o_place_a, .ref o_who_a, .ref o_width_a, .ref o_term_a, .ref o_start_a, .int o_size, .int o_rules, .ref o_sort_a, .ref o_arity_a, .ref o_stratum_a, .ref o_reach_a])), (o_kind_a, .inl (cI, 240, .inl o_kind)), (o_who_a, .inl (cI, 240, .inl o_who)), (o_width_a, .inl (cI, 240, .inl o_width)), (o_term_a, .inl (cI, 720, .inl o_term)), (o_start_a, .inl (cI, 241, .inl o_start)), (o_arity_a, .inl (cI, 10, .inl o_arity)), (o_reach_a, .inl (cI, 10, .inl o_reach))] H := hP
        have hD : va_D A [(o, .inr (4, [.ref o_kind_a, .ref o_place_a, .ref o_who_a, .ref o_width_a, .ref o_term_a, .ref o_start_a, .int o_size, .int o_rules, .ref o_sort_a, .ref o_arity_a, .ref o_stratum_a, .ref o_reach_a])), (o_kind_a, .inl (cI, 240, .inl o_kind)), (o_who_a, .inl (cI, 240, .inl o_who)), (o_width_a, .inl (cI, 240, .inl o_width)), (o_term_a, .inl (cI, 720, .inl o_term)), (o_start_a, .inl (cI, 241, .inl o_start)), (o_arity_a, .inl (cI, 10, .inl o_arity)), (o_reach_a, .inl (cI, 10, .inl o_reach))] := hD
        refine lv_istore_n (lv' := [(3, .int z1), (2, .int y2), (0, .int w0), (1, .ref o)]) hx hb dX2_findFirst_16 rfl hl (by decide) rfl (fun ls hl => ?_)
        refine lv_iload_n hx hb dX2_findFirst_17 rfl (lv_at hl 0 rfl) ?_
        refine lv_iconst (v := (-1 : Int32)) hx hb dX2_findFirst_18 (by decide) ?_
        refine lv_icmp_eq (tgt := 24) hx hb dX2_findFirst_19 (by decide) (fun hc => ?_) (fun hc => ?_)
        · have hm := if_t hc hm
          obtain ⟨v2, ev2⟩ : ∃ y : Int32, y = y2 + (1 : Int32) := ⟨_, rfl⟩
          have hm := lt_at ev2 hm
          refine lv_iinc (v := v2) (lv' := [(2, .int v2), (3, .int z1), (0, .int w0), (1, .ref o)]) hx hb dX2_findFirst_24 hl (k := 1) rfl (by rw [ev2]; rfl) (by decide) rfl (fun ls hl => ?_)
          refine lv_goto (tgt := 2) hx hb dX2_findFirst_27 (by decide) ?_
          exact ih v2 z hm hE hR H locs ls hP hD hS (lv_sub hl [0, 2, 3] rfl)
        · have hm := if_f hc hm
          refine lv_iload_n hx hb dX2_findFirst_22 rfl (lv_at hl 0 rfl) ?_
          have ho := hR _ (Option.some.inj hm).symm
          exact k_iret hx hb hr hlocks hK hP hD hS dX2_findFirst_23 hQ (by rw [← ho]) rfl
  unfold M_Inspector_findFirst at hm
  obtain ⟨H, eH⟩ : ∃ H, H = s.heap := ⟨_, rfl⟩
  obtain ⟨locs, el⟩ : ∃ x : List Loc, x = [] := ⟨_, rfl⟩
  have hP : va_P D vwCl [(o, .inr (4, [.ref o_kind_a, .ref o_place_a, .ref o_who_a, .ref o_width_a, .ref o_term_a, .ref o_start_a, .int o_size, .int o_rules, .ref o_sort_a, .ref o_arity_a, .ref o_stratum_a, .ref o_reach_a])), (o_kind_a, .inl (cI, 240, .inl o_kind)), (o_who_a, .inl (cI, 240, .inl o_who)), (o_width_a, .inl (cI, 240, .inl o_width)), (o_term_a, .inl (cI, 720, .inl o_term)), (o_start_a, .inl (cI, 241, .inl o_start)), (o_arity_a, .inl (cI, 10, .inl o_arity)), (o_reach_a, .inl (cI, 10, .inl o_reach))] H := eH ▸ hP
  have hS : va_S A s.heap H locs := by rw [eH, el]; exact hS
  suffices hW : W p l e { frames := 3, cells := 0, slots := 0, locals := 71 } s m args below meth c H locs 0 0 Q (F0 m 0 ls []) by rw [eH, el] at hW; exact hW
  clear eH el
  refine lv_iconst (v := (0 : Int32)) hx hb dX2_findFirst_0 (by decide) ?_
  refine lv_istore_n (lv' := [(2, .int (0 : Int32)), (0, .int x0), (1, .ref o)]) hx hb dX2_findFirst_1 rfl hl (by decide) rfl (fun ls hl => ?_)
  obtain ⟨z3, hz3, hm⟩ := bd_at hm
  refine L2 x0 F (0 : Int32) z3 hz3 (fun q4 H locs ls ez hP hD hS hl => ?_) (fun o ho => ?_) H locs ls hP hD hS (lv_sub hl [0, 1, 2] rfl)
  · have hm := cs_l ez hm
    refine lv_iconst (v := (-1 : Int32)) hx hb dX2_findFirst_30 (by decide) ?_
    have ho := Option.some.inj hm
    exact k_iret hx hb hr hlocks hK hP hD hS dX2_findFirst_31 hQ (by rw [← ho]) rfl
  · have hm := cs_r ho hm
    exact Option.some.inj hm
noncomputable def M_Inspector_inspect_L32 (F : Nat) (o_kind : Nat → Int32) (o_place : Nat → Int32) (o_who : Nat → Int32) (o_width : Nat → Int32) (o_term : Nat → Int32) (o_start : Nat → Int32) (o_rules : Int32) (c_o_arity : Nat → Int32) (c_o_reach : Nat → Int32) : Nat → Int32 → (Int32) → (Int32) → Option ((Int32) × (Int32))
  | 0, _, _, _ => none
  | n + 1, y3, c_t_found, c_t_place => if (5 : Int32) < y3 then (some (c_t_found, c_t_place)) else (if c_t_found = 0 then (bd_ (M_Inspector_findFirst F o_kind o_who o_width o_term o_start o_rules c_o_arity c_o_reach y3) fun z2 => if z2 = (-1 : Int32) then (lt_ (y3 + (1 : Int32)) fun v3 => M_Inspector_inspect_L32 F o_kind o_place o_who o_width o_term o_start o_rules c_o_arity c_o_reach n v3 c_t_found c_t_place) else (gd_ z2 240 <| lt_ ((o_place z2.toNatClampNeg)) fun v4 => lt_ (y3 + (1 : Int32)) fun v5 => M_Inspector_inspect_L32 F o_kind o_place o_who o_width o_term o_start o_rules c_o_arity c_o_reach n v5 y3 v4)) else (some (c_t_found, c_t_place)))
noncomputable def M_Inspector_inspect (F : Nat) (t_found : Int32) (t_place : Int32) (o_kind : Nat → Int32) (o_place : Nat → Int32) (o_who : Nat → Int32) (o_width : Nat → Int32) (o_term : Nat → Int32) (o_start : Nat → Int32) (o_size : Int32) (o_rules : Int32) (o_sort : Nat → Int32) (o_arity : Nat → Int32) (o_reach : Nat → Int32) (x1 : Int32) : Option ((Int32) × (Int32) × (Nat → Int32) × (Nat → Int32) × (Nat → Int32)) := if x1 = (-1 : Int32) then (bd_ (M_Program_describePredicates F o_kind o_who o_width o_start o_size o_rules o_sort o_arity o_reach) fun z1 => bd_ (M_Inspector_inspect_L32 F o_kind o_place o_who o_width o_term o_start o_rules z1.2.1 z1.2.2 F (2 : Int32) (0 : Int32) (0 : Int32)) fun z6 => some (z6.1, z6.2, z1.1, z1.2.1, z1.2.2)) else (some ((1 : Int32), x1, o_sort, o_arity, o_reach))
set_option maxRecDepth 100000 in
set_option maxHeartbeats 4000000 in
theorem K_Inspector_inspect (l : Launch) (D : va_G) (cB cI cZ cJ : ClassId) (t : Nat) (o : Nat) (o_kind_a : Nat) (o_place_a : Nat) (o_who_a : Nat) (o_width_a : Nat) (o_term_a : Nat) (o_start_a : Nat) (o_sort_a : Nat) (o_arity_a : Nat) (o_stratum_a : Nat) (o_reach_a : Nat) (t_found : Int32) (t_place : Int32) (o_size : Int32) (o_rules : Int32) (o_kind : Nat → Int32) (o_place : Nat → Int32) (o_who : Nat → Int32) (o_width : Nat → Int32) (o_term : Nat → Int32) (o_start : Nat → Int32) (o_sort : Nat → Int32) (o_arity : Nat → Int32) (o_reach : Nat → Int32) (x1 : Int32) (F : Nat) (out : (Int32) × (Int32) × (Nat → Int32) × (Nat → Int32) × (Nat → Int32)) (hm : M_Inspector_inspect F t_found t_place o_kind o_place o_who o_width o_term o_start o_size o_rules o_sort o_arity o_reach x1 = some out) : KC l yX2_inspect cX2_inspect 5 none { frames := 4, cells := 0, slots := 0, locals := 94 } D (kTy cB cI cZ cJ) [.ref t, .ref o, .int x1] [(t, .inr (2, [.int t_found, .int t_place])), (o, .inr (4, [.ref o_kind_a, .ref o_place_a, .ref o_who_a, .ref o_width_a, .ref o_term_a, .ref o_start_a, .int o_size, .int o_rules, .ref o_sort_a, .ref o_arity_a, .ref o_stratum_a, .ref o_reach_a])), (o_kind_a, .inl (cI, 240, .inl o_kind)), (o_place_a, .inl (cI, 240, .inl o_place)), (o_who_a, .inl (cI, 240, .inl o_who)), (o_width_a, .inl (cI, 240, .inl o_width)), (o_term_a, .inl (cI, 720, .inl o_term)), (o_start_a, .inl (cI, 241, .inl o_start)), (o_sort_a, .inl (cI, 10, .inl o_sort)), (o_arity_a, .inl (cI, 10, .inl o_arity)), (o_reach_a, .inl (cI, 10, .inl o_reach))] none [(t, .inr (2, [.int out.1, .int out.2.1])), (o, .inr (4, [.ref o_kind_a, .ref o_place_a, .ref o_who_a, .ref o_width_a, .ref o_term_a, .ref o_start_a, .int o_size, .int o_rules, .ref o_sort_a, .ref o_arity_a, .ref o_stratum_a, .ref o_reach_a])), (o_kind_a, .inl (cI, 240, .inl o_kind)), (o_place_a, .inl (cI, 240, .inl o_place)), (o_who_a, .inl (cI, 240, .inl o_who)), (o_width_a, .inl (cI, 240, .inl o_width)), (o_term_a, .inl (cI, 720, .inl o_term)), (o_start_a, .inl (cI, 241, .inl o_start)), (o_sort_a, .inl (cI, 10, .inl out.2.2.1)), (o_arity_a, .inl (cI, 10, .inl out.2.2.2.1)), (o_reach_a, .inl (cI, 10, .inl out.2.2.2.2))] := by
  refine KC.of (by decide +kernel) (Nat.le_of_ble_eq_true rfl) ?_
  intro p e s m below meth c A ls args Q hQ CX hA hK hP hD hl
  obtain ⟨hx, hb, hr, hml, hown, hts, hlocks⟩ := CX
  have hown : s.vm.findClass RX2 = some m.cls := hown
  have hS : va_S A s.heap s.heap [] := va_S.rf
  have hl : lv_has ls 5 [(0, .ref t), (1, .ref o), (2, .int x1)] := hl
  have L32 : ∀ (c_o_sort : Nat → Int32) (c_o_arity : Nat → Int32) (c_o_reach : Nat → Int32) (n : Nat) (y3 : Int32) (c_t_found : Int32) (c_t_place : Int32) (z : ((Int32) × (Int32))), M_Inspector_inspect_L32 F o_kind o_place o_who o_width o_term o_start o_rules c_o_arity c_o_reach n y3 c_t_found c_t_place = some z →
      (∀ (H : Heap) (locs : List Loc) (ls : Array Slot), va_P D vwCl [(t, .inr (2, [.int z.1, .int z.2])), (o, .inr (4, [.ref o_kind_a, .ref o_place_a, .ref o_who_a, .ref o_width_a, .ref o_term_a, .ref o_start_a, .int o_size, .int o_rules, .ref o_sort_a, .ref o_arity_a, .ref o_stratum_a, .ref o_reach_a])), (o_kind_a, .inl (cI, 240, .inl o_kind)), (o_place_a, .inl (cI, 240, .inl o_place)), (o_who_a, .inl (cI, 240, .inl o_who)), (o_width_a, .inl (cI, 240, .inl o_width)), (o_term_a, .inl (cI, 720, .inl o_term)), (o_start_a, .inl (cI, 241, .inl o_start)), (o_sort_a, .inl (cI, 10, .inl c_o_sort)), (o_arity_a, .inl (cI, 10, .inl c_o_arity)), (o_reach_a, .inl (cI, 10, .inl c_o_reach))] H → va_D A [(t, .inr (2, [.int z.1, .int z.2])), (o, .inr (4, [.ref o_kind_a, .ref o_place_a, .ref o_who_a, .ref o_width_a, .ref o_term_a, .ref o_start_a, .int o_size, .int o_rules, .ref o_sort_a, .ref o_arity_a, .ref o_stratum_a, .ref o_reach_a])), (o_kind_a, .inl (cI, 240, .inl o_kind)), (o_place_a, .inl (cI, 240, .inl o_place)), (o_who_a, .inl (cI, 240, .inl o_who)), (o_width_a, .inl (cI, 240, .inl o_width)), (o_term_a, .inl (cI, 720, .inl o_term)), (o_start_a, .inl (cI, 241, .inl o_start)), (o_sort_a, .inl (cI, 10, .inl c_o_sort)), (o_arity_a, .inl (cI, 10, .inl c_o_arity)), (o_reach_a, .inl (cI, 10, .inl c_o_reach))] → va_S A s.heap H locs → lv_has ls 5 [] → W p l e { frames := 4, cells := 0, slots := 0, locals := 94 } s m args below meth c H locs 0 0 Q (F0 m 79 ls [])) →
      ∀ (H : Heap) (locs : List Loc) (ls : Array Slot), va_P D vwCl [(t, .inr (2, [.int c_t_found, .int c_t_place])), (o, .inr (4, [.ref o_kind_a, .ref o_place_a, .ref o_who_a, .ref o_width_a, .ref o_term_a, .ref o_start_a, .int o_size, .int o_rules, .ref o_sort_a, .ref o_arity_a, .ref o_stratum_a, .ref o_reach_a])), (o_kind_a, .inl (cI, 240, .inl o_kind)), (o_place_a, .inl (cI, 240, .inl o_place)), (o_who_a, .inl (cI, 240, .inl o_who)), (o_width_a, .inl (cI, 240, .inl o_width)), (o_term_a, .inl (cI, 720, .inl o_term)), (o_start_a, .inl (cI, 241, .inl o_start)), (o_sort_a, .inl (cI, 10, .inl c_o_sort)), (o_arity_a, .inl (cI, 10, .inl c_o_arity)), (o_reach_a, .inl (cI, 10, .inl c_o_reach))] H → va_D A [(t, .inr (2, [.int c_t_found, .int c_t_place])), (o, .inr (4, [.ref o_kind_a, .ref o_place_a, .ref o_who_a, .ref o_width_a, .ref o_term_a, .ref o_start_a, .int o_size, .int o_rules, .ref o_sort_a, .ref o_arity_a, .ref o_stratum_a, .ref o_reach_a])), (o_kind_a, .inl (cI, 240, .inl o_kind)), (o_place_a, .inl (cI, 240, .inl o_place)), (o_who_a, .inl (cI, 240, .inl o_who)), (o_width_a, .inl (cI, 240, .inl o_width)), (o_term_a, .inl (cI, 720, .inl o_term)), (o_start_a, .inl (cI, 241, .inl o_start)), (o_sort_a, .inl (cI, 10, .inl c_o_sort)), (o_arity_a, .inl (cI, 10, .inl c_o_arity)), (o_reach_a, .inl (cI, 10, .inl c_o_reach))] → va_S A s.heap H locs → lv_has ls 5 [(3, .int y3), (0, .ref t), (1, .ref o)] → W p l e { frames := 4, cells := 0, slots := 0, locals := 94 } s m args below meth c H locs 0 0 Q (F0 m 32 ls []) := by
    intro c_o_sort c_o_arity c_o_reach n
    induction n with
    | zero => intro y3 c_t_found c_t_place z hm; unfold M_Inspector_inspect_L32 at hm; cases hm
    | succ n ih =>
      intro y3 c_t_found c_t_place z hm hE H locs ls hP hD hS hl
      unfold M_Inspector_inspect_L32 at hm
      refine lv_iload_n hx hb dX2_inspect_32 rfl (lv_at hl 0 rfl) ?_
      refine lv_iconst (v := (5 : Int32)) hx hb dX2_inspect_33 (by decide) ?_
      refine lv_icmp_gt (tgt := 79) hx hb dX2_inspect_34 (by decide) (fun hc => ?_) (fun hc => ?_)
      · have hm := if_t hc hm
        cases hm
        exact hE H locs ls hP hD hS (lv_sub hl [] rfl)
      · have hm := if_f hc hm
        refine lv_aload_n hx hb dX2_inspect_37 rfl (lv_at hl 1 rfl) ?_
        refine va_get (D := D) (ci := 2) (v := .int c_t_found) (C := RX2) (T := TX2) (N := 2) hx hb hts in_X2 hown hK hP 0 rfl rfl 0 (by decide) (hts _ kf_X2_9) (fun _ h9 => h9) rfl dX2_inspect_38 ?_
        refine lv_if_ne (tgt := 79) hx hb dX2_inspect_41 (by decide) (fun hc => ?_) (fun hc => ?_)
        · have hm := if_f hc hm
          cases hm
          exact hE H locs ls hP hD hS (lv_sub hl [] rfl)
        · have hm := if_t hc hm
          refine lv_iload_n hx hb dX2_inspect_44 rfl (lv_at hl 0 rfl) ?_
          refine lv_aload_n hx hb dX2_inspect_45 rfl (lv_at hl 2 rfl) ?_
          obtain ⟨z2, hz2, hm⟩ := bd_at hm
          refine k_callS (As := [.int y3, .ref o]) (rest := []) (wr := [(t, .inr (2, [.int c_t_found, .int c_t_place])), (o_place_a, .inl (cI, 240, .inl o_place)), (o_sort_a, .inl (cI, 10, .inl c_o_sort))]) (ws1 := [(t, .inr (2, [.int c_t_found, .int c_t_place])), (o, .inr (4, [.ref o_kind_a, .ref o_place_a, .ref o_who_a, .ref o_width_a, .ref o_term_a, .ref o_start_a, .int o_size, .int o_rules, .ref o_sort_a, .ref o_arity_a, .ref o_stratum_a, .ref o_reach_a])), (o_kind_a, .inl (cI, 240, .inl o_kind)), (o_place_a, .inl (cI, 240, .inl o_place)), (o_who_a, .inl (cI, 240, .inl o_who)), (o_width_a, .inl (cI, 240, .inl o_width)), (o_term_a, .inl (cI, 720, .inl o_term)), (o_start_a, .inl (cI, 241, .inl o_start)), (o_sort_a, .inl (cI, 10, .inl c_o_sort)), (o_arity_a, .inl (cI, 10, .inl c_o_arity)), (o_reach_a, .inl (cI, 10, .inl c_o_reach))]) [1, 2, 4, 5, 6, 7, 9, 10] [0, 3, 8] [0, 3, 4, 1, 5, 6, 7, 8, 2, 9, 10] (K_Inspector_findFirst l D cB cI cZ cJ o o_kind_a o_place_a o_who_a o_width_a o_term_a o_start_a o_sort_a o_arity_a o_stratum_a o_reach_a o_size o_rules o_kind o_who o_width o_term o_start c_o_arity c_o_reach y3 F z2 hz2) ms_X2_findFirst km_X2_23 hx hb hml hown hts hK hP hD hS hA hl.1 ⟨Nat.zero_le _, Nat.zero_le _⟩ dX2_inspect_46 rfl rfl (Nat.le_of_ble_eq_true rfl) ⟨⟨rfl, rfl⟩, Nat.le_of_ble_eq_true rfl, Nat.le_of_ble_eq_true rfl⟩ rfl rfl (by decide) rfl (fun H locs hP hD hS => ?_)
          have hP : va_P D vwCl [(t, .inr (2, [.int c_t_found, .int c_t_place])), (o, .inr (4, [.ref o_kind_a, .ref o_place_a, .ref o_who_a, .ref o_width_a, .ref o_term_a, .ref o_start_a, .int o_size, .int o_rules, .ref o_sort_a, .ref o_arity_a, .ref o_stratum_a, .ref o_reach_a])), (o_kind_a, .inl (cI, 240, .inl o_kind)), (o_place_a, .inl (cI, 240, .inl o_place)), (o_who_a, .inl (cI, 240, .inl o_who)), (o_width_a, .inl (cI, 240, .inl o_width)), (o_term_a, .inl (cI, 720, .inl o_term)), (o_start_a, .inl (cI, 241, .inl o_start)), (o_sort_a, .inl (cI, 10, .inl c_o_sort)), (o_arity_a, .inl (cI, 10, .inl c_o_arity)), (o_reach_a, .inl (cI, 10, .inl c_o_reach))] H := hP
          have hD : va_D A [(t, .inr (2, [.int c_t_found, .int c_t_place])), (o, .inr (4, [.ref o_kind_a, .ref o_place_a, .ref o_who_a, .ref o_width_a, .ref o_term_a, .ref o_start_a, .int o_size, .int o_rules, .ref o_sort_a, .ref o_arity_a, .ref o_stratum_a, .ref o_reach_a])), (o_kind_a, .inl (cI, 240, .inl o_kind)), (o_place_a, .inl (cI, 240, .inl o_place)), (o_who_a, .inl (cI, 240, .inl o_who)), (o_width_a, .inl (cI, 240, .inl o_width)), (o_term_a, .inl (cI, 720, .inl o_term)), (o_start_a, .inl (cI, 241, .inl o_start)), (o_sort_a, .inl (cI, 10, .inl c_o_sort)), (o_arity_a, .inl (cI, 10, .inl c_o_arity)), (o_reach_a, .inl (cI, 10, .inl c_o_reach))] := hD
          refine lv_istore (lv' := [(4, .int z2), (3, .int y3), (0, .ref t), (1, .ref o)]) hx hb dX2_inspect_49 hl (by decide) rfl (fun ls hl => ?_)
          refine lv_iload hx hb dX2_inspect_51 (lv_at hl 0 rfl) ?_
          refine lv_iconst (v := (-1 : Int32)) hx hb dX2_inspect_53 (by decide) ?_
          refine lv_icmp_eq (tgt := 73) hx hb dX2_inspect_54 (by decide) (fun hc => ?_) (fun hc => ?_)
          · have hm := if_t hc hm
            obtain ⟨v3, ev3⟩ : ∃ y : Int32, y = y3 + (1 : Int32) := ⟨_, rfl⟩
            have hm := lt_at ev3 hm
            refine lv_iinc (v := v3) (lv' := [(3, .int v3), (4, .int z2), (0, .ref t), (1, .ref o)]) hx hb dX2_inspect_73 hl (k := 1) rfl (by rw [ev3]; rfl) (by decide) rfl (fun ls hl => ?_)
            refine lv_goto (tgt := 32) hx hb dX2_inspect_76 (by decide) ?_
            exact ih v3 c_t_found c_t_place z hm hE H locs ls hP hD hS (lv_sub hl [0, 2, 3] rfl)
          · have hm := if_f hc hm
            refine lv_aload_n hx hb dX2_inspect_57 rfl (lv_at hl 2 rfl) ?_
            refine lv_iload_n hx hb dX2_inspect_58 rfl (lv_at hl 1 rfl) ?_
            refine va_put (D := D) (ci := 2) (v := .int y3) (ty := .int) (C := RX2) (T := TX2) (N := 2) hx hb hts in_X2 tyX2 tyX2_ok nmX2 hown hK hP hD hS 0 rfl rfl 0 (by decide) (hts _ kf_X2_9) (fun _ h9 => h9) rfl (by decide +kernel) rfl rfl (Nat.le_of_ble_eq_true rfl) dX2_inspect_59 (fun H locs hP hD hS => ?_)
            have hP : va_P D vwCl [(t, .inr (2, [.int y3, .int c_t_place])), (o, .inr (4, [.ref o_kind_a, .ref o_place_a, .ref o_who_a, .ref o_width_a, .ref o_term_a, .ref o_start_a, .int o_size, .int o_rules, .ref o_sort_a, .ref o_arity_a, .ref o_stratum_a, .ref o_reach_a])), (o_kind_a, .inl (cI, 240, .inl o_kind)), (o_place_a, .inl (cI, 240, .inl o_place)), (o_who_a, .inl (cI, 240, .inl o_who)), (o_width_a, .inl (cI, 240, .inl o_width)), (o_term_a, .inl (cI, 720, .inl o_term)), (o_start_a, .inl (cI, 241, .inl o_start)), (o_sort_a, .inl (cI, 10, .inl c_o_sort)), (o_arity_a, .inl (cI, 10, .inl c_o_arity)), (o_reach_a, .inl (cI, 10, .inl c_o_reach))] H := hP
            have hD : va_D A [(t, .inr (2, [.int y3, .int c_t_place])), (o, .inr (4, [.ref o_kind_a, .ref o_place_a, .ref o_who_a, .ref o_width_a, .ref o_term_a, .ref o_start_a, .int o_size, .int o_rules, .ref o_sort_a, .ref o_arity_a, .ref o_stratum_a, .ref o_reach_a])), (o_kind_a, .inl (cI, 240, .inl o_kind)), (o_place_a, .inl (cI, 240, .inl o_place)), (o_who_a, .inl (cI, 240, .inl o_who)), (o_width_a, .inl (cI, 240, .inl o_width)), (o_term_a, .inl (cI, 720, .inl o_term)), (o_start_a, .inl (cI, 241, .inl o_start)), (o_sort_a, .inl (cI, 10, .inl c_o_sort)), (o_arity_a, .inl (cI, 10, .inl c_o_arity)), (o_reach_a, .inl (cI, 10, .inl c_o_reach))] := hD
            refine lv_aload_n hx hb dX2_inspect_62 rfl (lv_at hl 2 rfl) ?_
            refine lv_aload_n hx hb dX2_inspect_63 rfl (lv_at hl 3 rfl) ?_
            refine va_get (D := D) (ci := 4) (v := .ref o_place_a) (C := RX4) (T := TX4) (N := 12) hx hb hts in_X4 hown hK hP 1 rfl rfl 1 (by decide) (hts _ kf_X2_27) (fun _ h9 => h9) rfl dX2_inspect_64 ?_
            refine lv_iload hx hb dX2_inspect_67 (lv_at hl 0 rfl) ?_
            refine va_iald hx hb hK hP 3 1 rfl rfl (gd_in hm) dX2_inspect_69 ?_
            have hm := gd_go hm
            refine lv_topi (fun v4 ev4 => ?_)
            have hm := lt_at ev4 hm
            refine va_put (D := D) (ci := 2) (v := .int v4) (ty := .int) (C := RX2) (T := TX2) (N := 2) hx hb hts in_X2 tyX2 tyX2_ok nmX2 hown hK hP hD hS 0 rfl rfl 1 (by decide) (hts _ kf_X2_15) (fun _ h9 => h9) rfl (by decide +kernel) rfl rfl (Nat.le_of_ble_eq_true rfl) dX2_inspect_70 (fun H locs hP hD hS => ?_)
            have hP : va_P D vwCl [(t, .inr (2, [.int y3, .int v4])), (o, .inr (4, [.ref o_kind_a, .ref o_place_a, .ref o_who_a, .ref o_width_a, .ref o_term_a, .ref o_start_a, .int o_size, .int o_rules, .ref o_sort_a, .ref o_arity_a, .ref o_stratum_a, .ref o_reach_a])), (o_kind_a, .inl (cI, 240, .inl o_kind)), (o_place_a, .inl (cI, 240, .inl o_place)), (o_who_a, .inl (cI, 240, .inl o_who)), (o_width_a, .inl (cI, 240, .inl o_width)), (o_term_a, .inl (cI, 720, .inl o_term)), (o_start_a, .inl (cI, 241, .inl o_start)), (o_sort_a, .inl (cI, 10, .inl c_o_sort)), (o_arity_a, .inl (cI, 10, .inl c_o_arity)), (o_reach_a, .inl (cI, 10, .inl c_o_reach))] H := hP
            have hD : va_D A [(t, .inr (2, [.int y3, .int v4])), (o, .inr (4, [.ref o_kind_a, .ref o_place_a, .ref o_who_a, .ref o_width_a, .ref o_term_a, .ref o_start_a, .int o_size, .int o_rules, .ref o_sort_a, .ref o_arity_a, .ref o_stratum_a, .ref o_reach_a])), (o_kind_a, .inl (cI, 240, .inl o_kind)), (o_place_a, .inl (cI, 240, .inl o_place)), (o_who_a, .inl (cI, 240, .inl o_who)), (o_width_a, .inl (cI, 240, .inl o_width)), (o_term_a, .inl (cI, 720, .inl o_term)), (o_start_a, .inl (cI, 241, .inl o_start)), (o_sort_a, .inl (cI, 10, .inl c_o_sort)), (o_arity_a, .inl (cI, 10, .inl c_o_arity)), (o_reach_a, .inl (cI, 10, .inl c_o_reach))] := hD
            obtain ⟨v5, ev5⟩ : ∃ y : Int32, y = y3 + (1 : Int32) := ⟨_, rfl⟩
            have hm := lt_at ev5 hm
            refine lv_iinc (v := v5) (lv' := [(3, .int v5), (4, .int z2), (0, .ref t), (1, .ref o)]) hx hb dX2_inspect_73 hl (k := 1) rfl (by rw [ev5]; rfl) (by decide) rfl (fun ls hl => ?_)
            refine lv_goto (tgt := 32) hx hb dX2_inspect_76 (by decide) ?_
            exact ih v5 y3 v4 z hm hE H locs ls hP hD hS (lv_sub hl [0, 2, 3] rfl)
  unfold M_Inspector_inspect at hm
  obtain ⟨H, eH⟩ : ∃ H, H = s.heap := ⟨_, rfl⟩
  obtain ⟨locs, el⟩ : ∃ x : List Loc, x = [] := ⟨_, rfl⟩
  have hP : va_P D vwCl [(t, .inr (2, [.int t_found, .int t_place])), (o, .inr (4, [.ref o_kind_a, .ref o_place_a, .ref o_who_a, .ref o_width_a, .ref o_term_a, .ref o_start_a, .int o_size, .int o_rules, .ref o_sort_a, .ref o_arity_a, .ref o_stratum_a, .ref o_reach_a])), (o_kind_a, .inl (cI, 240, .inl o_kind)), (o_place_a, .inl (cI, 240, .inl o_place)), (o_who_a, .inl (cI, 240, .inl o_who)), (o_width_a, .inl (cI, 240, .inl o_width)), (o_term_a, .inl (cI, 720, .inl o_term)), (o_start_a, .inl (cI, 241, .inl o_start)), (o_sort_a, .inl (cI, 10, .inl o_sort)), (o_arity_a, .inl (cI, 10, .inl o_arity)), (o_reach_a, .inl (cI, 10, .inl o_reach))] H := eH ▸ hP
  have hS : va_S A s.heap H locs := by rw [eH, el]; exact hS
  suffices hW : W p l e { frames := 4, cells := 0, slots := 0, locals := 94 } s m args below meth c H locs 0 0 Q (F0 m 0 ls []) by rw [eH, el] at hW; exact hW
  clear eH el
  refine lv_aload_n hx hb dX2_inspect_0 rfl (lv_at hl 0 rfl) ?_
  refine lv_iconst (v := (0 : Int32)) hx hb dX2_inspect_1 (by decide) ?_
  refine va_put (D := D) (ci := 2) (v := .int (0 : Int32)) (ty := .int) (C := RX2) (T := TX2) (N := 2) hx hb hts in_X2 tyX2 tyX2_ok nmX2 hown hK hP hD hS 0 rfl rfl 0 (by decide) (hts _ kf_X2_9) (fun _ h9 => h9) rfl (by decide +kernel) rfl rfl (Nat.le_of_ble_eq_true rfl) dX2_inspect_2 (fun H locs hP hD hS => ?_)
  have hP : va_P D vwCl [(t, .inr (2, [.int (0 : Int32), .int t_place])), (o, .inr (4, [.ref o_kind_a, .ref o_place_a, .ref o_who_a, .ref o_width_a, .ref o_term_a, .ref o_start_a, .int o_size, .int o_rules, .ref o_sort_a, .ref o_arity_a, .ref o_stratum_a, .ref o_reach_a])), (o_kind_a, .inl (cI, 240, .inl o_kind)), (o_place_a, .inl (cI, 240, .inl o_place)), (o_who_a, .inl (cI, 240, .inl o_who)), (o_width_a, .inl (cI, 240, .inl o_width)), (o_term_a, .inl (cI, 720, .inl o_term)), (o_start_a, .inl (cI, 241, .inl o_start)), (o_sort_a, .inl (cI, 10, .inl o_sort)), (o_arity_a, .inl (cI, 10, .inl o_arity)), (o_reach_a, .inl (cI, 10, .inl o_reach))] H := hP
  have hD : va_D A [(t, .inr (2, [.int (0 : Int32), .int t_place])), (o, .inr (4, [.ref o_kind_a, .ref o_place_a, .ref o_who_a, .ref o_width_a, .ref o_term_a, .ref o_start_a, .int o_size, .int o_rules, .ref o_sort_a, .ref o_arity_a, .ref o_stratum_a, .ref o_reach_a])), (o_kind_a, .inl (cI, 240, .inl o_kind)), (o_place_a, .inl (cI, 240, .inl o_place)), (o_who_a, .inl (cI, 240, .inl o_who)), (o_width_a, .inl (cI, 240, .inl o_width)), (o_term_a, .inl (cI, 720, .inl o_term)), (o_start_a, .inl (cI, 241, .inl o_start)), (o_sort_a, .inl (cI, 10, .inl o_sort)), (o_arity_a, .inl (cI, 10, .inl o_arity)), (o_reach_a, .inl (cI, 10, .inl o_reach))] := hD
  refine lv_aload_n hx hb dX2_inspect_5 rfl (lv_at hl 0 rfl) ?_
  refine lv_iconst (v := (0 : Int32)) hx hb dX2_inspect_6 (by decide) ?_
  refine va_put (D := D) (ci := 2) (v := .int (0 : Int32)) (ty := .int) (C := RX2) (T := TX2) (N := 2) hx hb hts in_X2 tyX2 tyX2_ok nmX2 hown hK hP hD hS 0 rfl rfl 1 (by decide) (hts _ kf_X2_15) (fun _ h9 => h9) rfl (by decide +kernel) rfl rfl (Nat.le_of_ble_eq_true rfl) dX2_inspect_7 (fun H locs hP hD hS => ?_)
  have hP : va_P D vwCl [(t, .inr (2, [.int (0 : Int32), .int (0 : Int32)])), (o, .inr (4, [.ref o_kind_a, .ref o_place_a, .ref o_who_a, .ref o_width_a, .ref o_term_a, .ref o_start_a, .int o_size, .int o_rules, .ref o_sort_a, .ref o_arity_a, .ref o_stratum_a, .ref o_reach_a])), (o_kind_a, .inl (cI, 240, .inl o_kind)), (o_place_a, .inl (cI, 240, .inl o_place)), (o_who_a, .inl (cI, 240, .inl o_who)), (o_width_a, .inl (cI, 240, .inl o_width)), (o_term_a, .inl (cI, 720, .inl o_term)), (o_start_a, .inl (cI, 241, .inl o_start)), (o_sort_a, .inl (cI, 10, .inl o_sort)), (o_arity_a, .inl (cI, 10, .inl o_arity)), (o_reach_a, .inl (cI, 10, .inl o_reach))] H := hP
  have hD : va_D A [(t, .inr (2, [.int (0 : Int32), .int (0 : Int32)])), (o, .inr (4, [.ref o_kind_a, .ref o_place_a, .ref o_who_a, .ref o_width_a, .ref o_term_a, .ref o_start_a, .int o_size, .int o_rules, .ref o_sort_a, .ref o_arity_a, .ref o_stratum_a, .ref o_reach_a])), (o_kind_a, .inl (cI, 240, .inl o_kind)), (o_place_a, .inl (cI, 240, .inl o_place)), (o_who_a, .inl (cI, 240, .inl o_who)), (o_width_a, .inl (cI, 240, .inl o_width)), (o_term_a, .inl (cI, 720, .inl o_term)), (o_start_a, .inl (cI, 241, .inl o_start)), (o_sort_a, .inl (cI, 10, .inl o_sort)), (o_arity_a, .inl (cI, 10, .inl o_arity)), (o_reach_a, .inl (cI, 10, .inl o_reach))] := hD
  refine lv_iload_n hx hb dX2_inspect_10 rfl (lv_at hl 2 rfl) ?_
  refine lv_iconst (v := (-1 : Int32)) hx hb dX2_inspect_11 (by decide) ?_
  refine lv_icmp_eq (tgt := 26) hx hb dX2_inspect_12 (by decide) (fun hc => ?_) (fun hc => ?_)
  · have hm := if_t hc hm
    refine lv_aload_n hx hb dX2_inspect_26 rfl (lv_at hl 1 rfl) ?_
    obtain ⟨z1, hz1, hm⟩ := bd_at hm
    refine k_callV (As := []) (rest := []) (wr := [(t, .inr (2, [.int (0 : Int32), .int (0 : Int32)])), (o_place_a, .inl (cI, 240, .inl o_place)), (o_term_a, .inl (cI, 720, .inl o_term))]) (ws1 := [(t, .inr (2, [.int (0 : Int32), .int (0 : Int32)])), (o, .inr (4, [.ref o_kind_a, .ref o_place_a, .ref o_who_a, .ref o_width_a, .ref o_term_a, .ref o_start_a, .int o_size, .int o_rules, .ref o_sort_a, .ref o_arity_a, .ref o_stratum_a, .ref o_reach_a])), (o_kind_a, .inl (cI, 240, .inl o_kind)), (o_place_a, .inl (cI, 240, .inl o_place)), (o_who_a, .inl (cI, 240, .inl o_who)), (o_width_a, .inl (cI, 240, .inl o_width)), (o_term_a, .inl (cI, 720, .inl o_term)), (o_start_a, .inl (cI, 241, .inl o_start)), (o_sort_a, .inl (cI, 10, .inl z1.1)), (o_arity_a, .inl (cI, 10, .inl z1.2.1)), (o_reach_a, .inl (cI, 10, .inl z1.2.2))]) [1, 2, 4, 5, 7, 8, 9, 10] [0, 3, 6] [0, 3, 4, 1, 5, 6, 2, 7, 8, 9, 10] (K_Program_describePredicates l D cB cI cZ cJ o o_kind_a o_place_a o_who_a o_width_a o_term_a o_start_a o_sort_a o_arity_a o_stratum_a o_reach_a o_size o_rules o_kind o_who o_width o_start o_sort o_arity o_reach F z1 hz1) mf_X4_describePredicates km_X2_18 hx hb hml hown hts hK hP hD hS hA hl.1 ⟨Nat.zero_le _, Nat.zero_le _⟩ dX2_inspect_27 rfl rfl (Nat.le_of_ble_eq_true rfl) ⟨⟨rfl, rfl⟩, Nat.le_of_ble_eq_true rfl, Nat.le_of_ble_eq_true rfl⟩ rfl rfl (by decide) rfl rfl rfl rfl (fun H locs hP hD hS => ?_)
    have hP : va_P D vwCl [(t, .inr (2, [.int (0 : Int32), .int (0 : Int32)])), (o, .inr (4, [.ref o_kind_a, .ref o_place_a, .ref o_who_a, .ref o_width_a, .ref o_term_a, .ref o_start_a, .int o_size, .int o_rules, .ref o_sort_a, .ref o_arity_a, .ref o_stratum_a, .ref o_reach_a])), (o_kind_a, .inl (cI, 240, .inl o_kind)), (o_place_a, .inl (cI, 240, .inl o_place)), (o_who_a, .inl (cI, 240, .inl o_who)), (o_width_a, .inl (cI, 240, .inl o_width)), (o_term_a, .inl (cI, 720, .inl o_term)), (o_start_a, .inl (cI, 241, .inl o_start)), (o_sort_a, .inl (cI, 10, .inl z1.1)), (o_arity_a, .inl (cI, 10, .inl z1.2.1)), (o_reach_a, .inl (cI, 10, .inl z1.2.2))] H := hP
    have hD : va_D A [(t, .inr (2, [.int (0 : Int32), .int (0 : Int32)])), (o, .inr (4, [.ref o_kind_a, .ref o_place_a, .ref o_who_a, .ref o_width_a, .ref o_term_a, .ref o_start_a, .int o_size, .int o_rules, .ref o_sort_a, .ref o_arity_a, .ref o_stratum_a, .ref o_reach_a])), (o_kind_a, .inl (cI, 240, .inl o_kind)), (o_place_a, .inl (cI, 240, .inl o_place)), (o_who_a, .inl (cI, 240, .inl o_who)), (o_width_a, .inl (cI, 240, .inl o_width)), (o_term_a, .inl (cI, 720, .inl o_term)), (o_start_a, .inl (cI, 241, .inl o_start)), (o_sort_a, .inl (cI, 10, .inl z1.1)), (o_arity_a, .inl (cI, 10, .inl z1.2.1)), (o_reach_a, .inl (cI, 10, .inl z1.2.2))] := hD
    refine lv_iconst (v := (2 : Int32)) hx hb dX2_inspect_30 (by decide) ?_
    refine lv_istore_n (lv' := [(3, .int (2 : Int32)), (0, .ref t), (1, .ref o), (2, .int x1)]) hx hb dX2_inspect_31 rfl hl (by decide) rfl (fun ls hl => ?_)
    obtain ⟨z6, hz6, hm⟩ := bd_at hm
    refine L32 z1.1 z1.2.1 z1.2.2 F (2 : Int32) (0 : Int32) (0 : Int32) z6 hz6 (fun H locs ls hP hD hS hl => ?_) H locs ls hP hD hS (lv_sub hl [0, 1, 2] rfl)
    have ho := Option.some.inj hm
    exact k_vret hx hb hr hlocks hK hP hD hS dX2_inspect_79 hQ rfl (by rw [← ho])
  · have hm := if_f hc hm
    refine lv_aload_n hx hb dX2_inspect_15 rfl (lv_at hl 0 rfl) ?_
    refine lv_iconst (v := (1 : Int32)) hx hb dX2_inspect_16 (by decide) ?_
    refine va_put (D := D) (ci := 2) (v := .int (1 : Int32)) (ty := .int) (C := RX2) (T := TX2) (N := 2) hx hb hts in_X2 tyX2 tyX2_ok nmX2 hown hK hP hD hS 0 rfl rfl 0 (by decide) (hts _ kf_X2_9) (fun _ h9 => h9) rfl (by decide +kernel) rfl rfl (Nat.le_of_ble_eq_true rfl) dX2_inspect_17 (fun H locs hP hD hS => ?_)
    have hP : va_P D vwCl [(t, .inr (2, [.int (1 : Int32), .int (0 : Int32)])), (o, .inr (4, [.ref o_kind_a, .ref o_place_a, .ref o_who_a, .ref o_width_a, .ref o_term_a, .ref o_start_a, .int o_size, .int o_rules, .ref o_sort_a, .ref o_arity_a, .ref o_stratum_a, .ref o_reach_a])), (o_kind_a, .inl (cI, 240, .inl o_kind)), (o_place_a, .inl (cI, 240, .inl o_place)), (o_who_a, .inl (cI, 240, .inl o_who)), (o_width_a, .inl (cI, 240, .inl o_width)), (o_term_a, .inl (cI, 720, .inl o_term)), (o_start_a, .inl (cI, 241, .inl o_start)), (o_sort_a, .inl (cI, 10, .inl o_sort)), (o_arity_a, .inl (cI, 10, .inl o_arity)), (o_reach_a, .inl (cI, 10, .inl o_reach))] H := hP
    have hD : va_D A [(t, .inr (2, [.int (1 : Int32), .int (0 : Int32)])), (o, .inr (4, [.ref o_kind_a, .ref o_place_a, .ref o_who_a, .ref o_width_a, .ref o_term_a, .ref o_start_a, .int o_size, .int o_rules, .ref o_sort_a, .ref o_arity_a, .ref o_stratum_a, .ref o_reach_a])), (o_kind_a, .inl (cI, 240, .inl o_kind)), (o_place_a, .inl (cI, 240, .inl o_place)), (o_who_a, .inl (cI, 240, .inl o_who)), (o_width_a, .inl (cI, 240, .inl o_width)), (o_term_a, .inl (cI, 720, .inl o_term)), (o_start_a, .inl (cI, 241, .inl o_start)), (o_sort_a, .inl (cI, 10, .inl o_sort)), (o_arity_a, .inl (cI, 10, .inl o_arity)), (o_reach_a, .inl (cI, 10, .inl o_reach))] := hD
    refine lv_aload_n hx hb dX2_inspect_20 rfl (lv_at hl 0 rfl) ?_
    refine lv_iload_n hx hb dX2_inspect_21 rfl (lv_at hl 2 rfl) ?_
    refine va_put (D := D) (ci := 2) (v := .int x1) (ty := .int) (C := RX2) (T := TX2) (N := 2) hx hb hts in_X2 tyX2 tyX2_ok nmX2 hown hK hP hD hS 0 rfl rfl 1 (by decide) (hts _ kf_X2_15) (fun _ h9 => h9) rfl (by decide +kernel) rfl rfl (Nat.le_of_ble_eq_true rfl) dX2_inspect_22 (fun H locs hP hD hS => ?_)
    have hP : va_P D vwCl [(t, .inr (2, [.int (1 : Int32), .int x1])), (o, .inr (4, [.ref o_kind_a, .ref o_place_a, .ref o_who_a, .ref o_width_a, .ref o_term_a, .ref o_start_a, .int o_size, .int o_rules, .ref o_sort_a, .ref o_arity_a, .ref o_stratum_a, .ref o_reach_a])), (o_kind_a, .inl (cI, 240, .inl o_kind)), (o_place_a, .inl (cI, 240, .inl o_place)), (o_who_a, .inl (cI, 240, .inl o_who)), (o_width_a, .inl (cI, 240, .inl o_width)), (o_term_a, .inl (cI, 720, .inl o_term)), (o_start_a, .inl (cI, 241, .inl o_start)), (o_sort_a, .inl (cI, 10, .inl o_sort)), (o_arity_a, .inl (cI, 10, .inl o_arity)), (o_reach_a, .inl (cI, 10, .inl o_reach))] H := hP
    have hD : va_D A [(t, .inr (2, [.int (1 : Int32), .int x1])), (o, .inr (4, [.ref o_kind_a, .ref o_place_a, .ref o_who_a, .ref o_width_a, .ref o_term_a, .ref o_start_a, .int o_size, .int o_rules, .ref o_sort_a, .ref o_arity_a, .ref o_stratum_a, .ref o_reach_a])), (o_kind_a, .inl (cI, 240, .inl o_kind)), (o_place_a, .inl (cI, 240, .inl o_place)), (o_who_a, .inl (cI, 240, .inl o_who)), (o_width_a, .inl (cI, 240, .inl o_width)), (o_term_a, .inl (cI, 720, .inl o_term)), (o_start_a, .inl (cI, 241, .inl o_start)), (o_sort_a, .inl (cI, 10, .inl o_sort)), (o_arity_a, .inl (cI, 10, .inl o_arity)), (o_reach_a, .inl (cI, 10, .inl o_reach))] := hD
    have ho := Option.some.inj hm
    exact k_vret hx hb hr hlocks hK hP hD hS dX2_inspect_25 hQ rfl (by rw [← ho])
