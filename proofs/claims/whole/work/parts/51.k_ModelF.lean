theorem kf_X9_193 : Cond.fieldLink RX9 193 "RuleHallModel" "staged" "I" ∈ kT := k_in 902 (by decide +kernel)
theorem kf_X9_196 : Cond.fieldLink RX9 196 "RuleHallModel" "logged" "I" ∈ kT := k_in 904 (by decide +kernel)
theorem kf_X9_199 : Cond.fieldLink RX9 199 "RuleHallModel" "safe" "I" ∈ kT := k_in 905 (by decide +kernel)
theorem kf_X9_205 : Cond.fieldLink RX9 205 "RuleHallModel" "changes" "Z" ∈ kT := k_in 901 (by decide +kernel)
theorem kf_X9_74 : Cond.fieldLink RX9 74 "RuleHallModel" "held" "[Z" ∈ kT := k_in 899 (by decide +kernel)
theorem kf_X9_77 : Cond.fieldLink RX9 77 "RuleHallModel" "kept" "[Z" ∈ kT := k_in 900 (by decide +kernel)
theorem kf_X9_80 : Cond.fieldLink RX9 80 "RuleHallModel" "stage" "[I" ∈ kT := k_in 903 (by decide +kernel)
theorem km_X9_237 : Cond.methodLink RX9 237 yX9_goes ∈ kT := k_in 1114 (by decide +kernel)
theorem km_X9_240 : Cond.methodLink RX9 240 yX9_found ∈ kT := k_in 1134 (by decide +kernel)
theorem km_X9_244 : Cond.methodLink RX9 244 yX9_tryAll ∈ kT := k_in 1110 (by decide +kernel)
theorem km_X9_247 : Cond.methodLink RX9 247 yX9_isConstant ∈ kT := k_in 1150 (by decide +kernel)
theorem km_X9_250 : Cond.methodLink RX9 250 yX9_place ∈ kT := k_in 1146 (by decide +kernel)
theorem km_X9_254 : Cond.methodLink RX9 254 yX9_stage ∈ kT := k_in 1153 (by decide +kernel)
theorem km_X9_260 : Cond.methodLink RX9 260 yX9_factCount ∈ kT := k_in 1181 (by decide +kernel)
theorem km_X9_263 : Cond.methodLink RX9 263 yX9_baseMany ∈ kT := k_in 1205 (by decide +kernel)
theorem mf_X9_baseMany : MF yX9_baseMany cX9_baseMany 4 (some .int) 1 := ⟨k_in 1207 (by decide +kernel), k_in 68 (by decide +kernel), k_in 79 (by decide +kernel), k_in 1208 (by decide +kernel), ⟨by decide +kernel, by decide +kernel, by decide +kernel⟩⟩
theorem mf_X9_factCount : MF yX9_factCount cX9_factCount 4 (some .int) 1 := ⟨k_in 1183 (by decide +kernel), k_in 67 (by decide +kernel), k_in 79 (by decide +kernel), k_in 1184 (by decide +kernel), ⟨by decide +kernel, by decide +kernel, by decide +kernel⟩⟩
theorem mf_X9_found : MF yX9_found cX9_found 3 none 1 := ⟨k_in 1136 (by decide +kernel), k_in 63 (by decide +kernel), k_in 79 (by decide +kernel), k_in 1137 (by decide +kernel), ⟨by decide +kernel, by decide +kernel, by decide +kernel⟩⟩
theorem mf_X9_goes : MF yX9_goes cX9_goes 4 (some .boolean) 2 := ⟨k_in 1116 (by decide +kernel), k_in 58 (by decide +kernel), k_in 79 (by decide +kernel), k_in 1117 (by decide +kernel), ⟨by decide +kernel, by decide +kernel, by decide +kernel⟩⟩
theorem ms_X9_isConstant : MS yX9_isConstant cX9_isConstant 1 (some .boolean) 1 := ⟨k_in 1151 (by decide +kernel), k_in 79 (by decide +kernel), k_in 1152 (by decide +kernel), ⟨by decide +kernel, by decide +kernel, by decide +kernel⟩⟩
theorem mf_X9_place : MF yX9_place cX9_place 6 (some .int) 4 := ⟨k_in 1148 (by decide +kernel), k_in 64 (by decide +kernel), k_in 79 (by decide +kernel), k_in 1149 (by decide +kernel), ⟨by decide +kernel, by decide +kernel, by decide +kernel⟩⟩
theorem mf_X9_stage : MF yX9_stage cX9_stage 3 (some .boolean) 2 := ⟨k_in 1155 (by decide +kernel), k_in 65 (by decide +kernel), k_in 79 (by decide +kernel), k_in 1156 (by decide +kernel), ⟨by decide +kernel, by decide +kernel, by decide +kernel⟩⟩
theorem mf_X9_tryAll : MF yX9_tryAll cX9_tryAll 4 none 1 := ⟨k_in 1112 (by decide +kernel), k_in 57 (by decide +kernel), k_in 79 (by decide +kernel), k_in 1113 (by decide +kernel), ⟨by decide +kernel, by decide +kernel, by decide +kernel⟩⟩
noncomputable def M_Model_tryAll_L36 (F : Nat) (t_partCount : Nat → Int32) (t_partSort : Nat → Int32) (t_partPredicate : Nat → Int32) (t_partTerms : Nat → Int32) (t_termOf : Nat → Int32) (t_wanted : Int32) (w2 : Int32) (w1 : Int32) : Nat → Int32 → (Nat → Int32) → (Nat → Int32) → (Int32) → (Int32) → Option ((Nat → Int32) × (Nat → Int32) × (Int32) × (Int32))
  | 0, _, _, _, _, _ => none
  | n + 1, y3, c_t_holds, c_t_value, c_t_count, c_t_fresh => if y3 < 0 then (some (c_t_holds, c_t_value, c_t_count, c_t_fresh)) else (gd_ y3 6 <| gd_ y3 6 <| lt_ (upd c_t_value y3.toNatClampNeg ((c_t_value y3.toNatClampNeg) + (1 : Int32))) fun f4 => gd_ y3 6 <| if (f4 y3.toNatClampNeg) = (12 : Int32) then (lt_ (y3 + (-1 : Int32)) fun v9 => M_Model_tryAll_L36 F t_partCount t_partSort t_partPredicate t_partTerms t_termOf t_wanted w2 w1 n v9 c_t_holds f4 c_t_count c_t_fresh) else (bd_ (M_Model_goes F t_partCount t_partSort t_partPredicate t_partTerms t_termOf c_t_holds f4 w1 (y3 + (1 : Int32))) fun z5 => if z5 = 0 then (M_Model_tryAll_L36 F t_partCount t_partSort t_partPredicate t_partTerms t_termOf t_wanted w2 w1 n y3 c_t_holds f4 c_t_count c_t_fresh) else (if (y3 + (1 : Int32)) = w2 then (bd_ (M_Model_found F t_partPredicate t_partTerms t_termOf c_t_holds f4 t_wanted c_t_count c_t_fresh w1) fun z8 => M_Model_tryAll_L36 F t_partCount t_partSort t_partPredicate t_partTerms t_termOf t_wanted w2 w1 n y3 z8.1 f4 z8.2.1 z8.2.2) else (lt_ (y3 + (1 : Int32)) fun v6 => gd_ v6 6 <| lt_ (upd f4 v6.toNatClampNeg (-1 : Int32)) fun f7 => M_Model_tryAll_L36 F t_partCount t_partSort t_partPredicate t_partTerms t_termOf t_wanted w2 w1 n v6 c_t_holds f7 c_t_count c_t_fresh))))
noncomputable def M_Model_tryAll (F : Nat) (t_partCount : Nat → Int32) (t_partSort : Nat → Int32) (t_partPredicate : Nat → Int32) (t_partTerms : Nat → Int32) (t_termOf : Nat → Int32) (t_variableCount : Nat → Int32) (t_holds : Nat → Int32) (t_value : Nat → Int32) (t_wanted : Int32) (t_count : Int32) (t_fresh : Int32) (x0 : Int32) : Option ((Nat → Int32) × (Nat → Int32) × (Int32) × (Int32)) := gd_ x0 16 <| lt_ ((t_variableCount x0.toNatClampNeg)) fun v1 => bd_ (M_Model_goes F t_partCount t_partSort t_partPredicate t_partTerms t_termOf t_holds t_value x0 (0 : Int32)) fun z2 => if z2 = 0 then (some (t_holds, t_value, t_count, t_fresh)) else (gd_ (0 : Int32) 6 <| lt_ (upd t_value (0 : Int32).toNatClampNeg (-1 : Int32)) fun f3 => if v1 = 0 then (bd_ (M_Model_found F t_partPredicate t_partTerms t_termOf t_holds f3 t_wanted t_count t_fresh x0) fun z11 => some (z11.1, f3, z11.2.1, z11.2.2)) else (bd_ (M_Model_tryAll_L36 F t_partCount t_partSort t_partPredicate t_partTerms t_termOf t_wanted v1 x0 F (0 : Int32) t_holds f3 t_count t_fresh) fun z10 => some (z10.1, z10.2.1, z10.2.2.1, z10.2.2.2)))
set_option maxRecDepth 100000 in
set_option maxHeartbeats 4000000 in
theorem K_Model_tryAll (l : Launch) (D : va_G) (cB cI cZ cJ : ClassId) (t : Nat) (t_tape_a : Nat) (t_firstPart_a : Nat) (t_partMany_a : Nat) (t_rulePlace_a : Nat) (t_sort_a : Nat) (t_predicate_a : Nat) (t_firstTerm_a : Nat) (t_termMany_a : Nat) (t_partPlace_a : Nat) (t_term_a : Nat) (t_depends_a : Nat) (t_partCount_a : Nat) (t_partSort_a : Nat) (t_partPredicate_a : Nat) (t_partTerms_a : Nat) (t_termOf_a : Nat) (t_variableCount_a : Nat) (t_kind_a : Nat) (t_width_a : Nat) (t_stratum_a : Nat) (t_holds_a : Nat) (t_held_a : Nat) (t_kept_a : Nat) (t_stage_a : Nat) (t_logs_a : Nat) (t_value_a : Nat) (t_thrown : Int32) (t_taped : Int32) (t_fault : Int32) (t_faultPlace : Int32) (t_at : Int32) (t_rules : Int32) (t_parts : Int32) (t_terms : Int32) (t_ruleCount : Int32) (t_changes : Int32) (t_staged : Int32) (t_logged : Int32) (t_safe : Int32) (t_wanted : Int32) (t_count : Int32) (t_fresh : Int32) (t_partCount : Nat → Int32) (t_partSort : Nat → Int32) (t_partPredicate : Nat → Int32) (t_partTerms : Nat → Int32) (t_termOf : Nat → Int32) (t_variableCount : Nat → Int32) (t_holds : Nat → Int32) (t_value : Nat → Int32) (x0 : Int32) (F : Nat) (out : (Nat → Int32) × (Nat → Int32) × (Int32) × (Int32)) (hm : M_Model_tryAll F t_partCount t_partSort t_partPredicate t_partTerms t_termOf t_variableCount t_holds t_value t_wanted t_count t_fresh x0 = some out) : KC l yX9_tryAll cX9_tryAll 4 none { frames := 4, cells := 0, slots := 0, locals := 90 } D (kTy cB cI cZ cJ) [.ref t, .int x0] [(t, .inr (9, [.int t_thrown, .ref t_tape_a, .int t_taped, .int t_fault, .int t_faultPlace, .int t_at, .int t_rules, .ref t_firstPart_a, .ref t_partMany_a, .ref t_rulePlace_a, .int t_parts, .ref t_sort_a, .ref t_predicate_a, .ref t_firstTerm_a, .ref t_termMany_a, .ref t_partPlace_a, .int t_terms, .ref t_term_a, .ref t_depends_a, .int t_ruleCount, .ref t_partCount_a, .ref t_partSort_a, .ref t_partPredicate_a, .ref t_partTerms_a, .ref t_termOf_a, .ref t_variableCount_a, .ref t_kind_a, .ref t_width_a, .ref t_stratum_a, .ref t_holds_a, .ref t_held_a, .ref t_kept_a, .int t_changes, .int t_staged, .ref t_stage_a, .int t_logged, .int t_safe, .ref t_logs_a, .ref t_value_a, .int t_wanted, .int t_count, .int t_fresh])), (t_partCount_a, .inl (cI, 16, .inl t_partCount)), (t_partSort_a, .inl (cI, 96, .inl t_partSort)), (t_partPredicate_a, .inl (cI, 96, .inl t_partPredicate)), (t_partTerms_a, .inl (cI, 96, .inl t_partTerms)), (t_termOf_a, .inl (cI, 288, .inl t_termOf)), (t_variableCount_a, .inl (cI, 16, .inl t_variableCount)), (t_holds_a, .inl (cZ, 17280, .inl t_holds)), (t_value_a, .inl (cI, 6, .inl t_value))] none [(t, .inr (9, [.int t_thrown, .ref t_tape_a, .int t_taped, .int t_fault, .int t_faultPlace, .int t_at, .int t_rules, .ref t_firstPart_a, .ref t_partMany_a, .ref t_rulePlace_a, .int t_parts, .ref t_sort_a, .ref t_predicate_a, .ref t_firstTerm_a, .ref t_termMany_a, .ref t_partPlace_a, .int t_terms, .ref t_term_a, .ref t_depends_a, .int t_ruleCount, .ref t_partCount_a, .ref t_partSort_a, .ref t_partPredicate_a, .ref t_partTerms_a, .ref t_termOf_a, .ref t_variableCount_a, .ref t_kind_a, .ref t_width_a, .ref t_stratum_a, .ref t_holds_a, .ref t_held_a, .ref t_kept_a, .int t_changes, .int t_staged, .ref t_stage_a, .int t_logged, .int t_safe, .ref t_logs_a, .ref t_value_a, .int t_wanted, .int out.2.2.1, .int out.2.2.2])), (t_partCount_a, .inl (cI, 16, .inl t_partCount)), (t_partSort_a, .inl (cI, 96, .inl t_partSort)), (t_partPredicate_a, .inl (cI, 96, .inl t_partPredicate)), (t_partTerms_a, .inl (cI, 96, .inl t_partTerms)), (t_termOf_a, .inl (cI, 288, .inl t_termOf)), (t_variableCount_a, .inl (cI, 16, .inl t_variableCount)), (t_holds_a, .inl (cZ, 17280, .inl out.1)), (t_value_a, .inl (cI, 6, .inl out.2.1))] := by
  refine KC.of (by decide +kernel) (Nat.le_of_ble_eq_true rfl) ?_
  intro p e s m below meth c A ls args Q hQ CX hA hK hP hD hl
  obtain ⟨hx, hb, hr, hml, hown, hts, hlocks⟩ := CX
  have hown : s.vm.findClass RX9 = some m.cls := hown
  have hS : va_S A s.heap s.heap [] := va_S.rf
  have hl : lv_has ls 4 [(0, .ref t), (1, .int x0)] := hl
  have L36 : ∀ (w2 : Int32) (w1 : Int32) (n : Nat) (y3 : Int32) (c_t_holds : Nat → Int32) (c_t_value : Nat → Int32) (c_t_count : Int32) (c_t_fresh : Int32) (z : ((Nat → Int32) × (Nat → Int32) × (Int32) × (Int32))), M_Model_tryAll_L36 F t_partCount t_partSort t_partPredicate t_partTerms t_termOf t_wanted w2 w1 n y3 c_t_holds c_t_value c_t_count c_t_fresh = some z →
      (∀ (H : Heap) (locs : List Loc) (ls : Array Slot), va_P D vwCl [(t, .inr (9, [.int t_thrown, .ref t_tape_a, .int t_taped, .int t_fault, .int t_faultPlace, .int t_at, .int t_rules, .ref t_firstPart_a, .ref t_partMany_a, .ref t_rulePlace_a, .int t_parts, .ref t_sort_a, .ref t_predicate_a, .ref t_firstTerm_a, .ref t_termMany_a, .ref t_partPlace_a, .int t_terms, .ref t_term_a, .ref t_depends_a, .int t_ruleCount, .ref t_partCount_a, .ref t_partSort_a, .ref t_partPredicate_a, .ref t_partTerms_a, .ref t_termOf_a, .ref t_variableCount_a, .ref t_kind_a, .ref t_width_a, .ref t_stratum_a, .ref t_holds_a, .ref t_held_a, .ref t_kept_a, .int t_changes, .int t_staged, .ref t_stage_a, .int t_logged, .int t_safe, .ref t_logs_a, .ref t_value_a, .int t_wanted, .int z.2.2.1, .int z.2.2.2])), (t_partCount_a, .inl (cI, 16, .inl t_partCount)), (t_partSort_a, .inl (cI, 96, .inl t_partSort)), (t_partPredicate_a, .inl (cI, 96, .inl t_partPredicate)), (t_partTerms_a, .inl (cI, 96, .inl t_partTerms)), (t_termOf_a, .inl (cI, 288, .inl t_termOf)), (t_variableCount_a, .inl (cI, 16, .inl t_variableCount)), (t_holds_a, .inl (cZ, 17280, .inl z.1)), (t_value_a, .inl (cI, 6, .inl z.2.1))] H → va_D A [(t, .inr (9, [.int t_thrown, .ref t_tape_a, .int t_taped, .int t_fault, .int t_faultPlace, .int t_at, .int t_rules, .ref t_firstPart_a, .ref t_partMany_a, .ref t_rulePlace_a, .int t_parts, .ref t_sort_a, .ref t_predicate_a, .ref t_firstTerm_a, .ref t_termMany_a, .ref t_partPlace_a, .int t_terms, .ref t_term_a, .ref t_depends_a, .int t_ruleCount, .ref t_partCount_a, .ref t_partSort_a, .ref t_partPredicate_a, .ref t_partTerms_a, .ref t_termOf_a, .ref t_variableCount_a, .ref t_kind_a, .ref t_width_a, .ref t_stratum_a, .ref t_holds_a, .ref t_held_a, .ref t_kept_a, .int t_changes, .int t_staged, .ref t_stage_a, .int t_logged, .int t_safe, .ref t_logs_a, .ref t_value_a, .int t_wanted, .int z.2.2.1, .int z.2.2.2])), (t_partCount_a, .inl (cI, 16, .inl t_partCount)), (t_partSort_a, .inl (cI, 96, .inl t_partSort)), (t_partPredicate_a, .inl (cI, 96, .inl t_partPredicate)), (t_partTerms_a, .inl (cI, 96, .inl t_partTerms)), (t_termOf_a, .inl (cI, 288, .inl t_termOf)), (t_variableCount_a, .inl (cI, 16, .inl t_variableCount)), (t_holds_a, .inl (cZ, 17280, .inl z.1)), (t_value_a, .inl (cI, 6, .inl z.2.1))] → va_S A s.heap H locs → lv_has ls 4 [] → W p l e { frames := 4, cells := 0, slots := 0, locals := 90 } s m args below meth c H locs 0 0 Q (F0 m 106 ls [])) →
      ∀ (H : Heap) (locs : List Loc) (ls : Array Slot), va_P D vwCl [(t, .inr (9, [.int t_thrown, .ref t_tape_a, .int t_taped, .int t_fault, .int t_faultPlace, .int t_at, .int t_rules, .ref t_firstPart_a, .ref t_partMany_a, .ref t_rulePlace_a, .int t_parts, .ref t_sort_a, .ref t_predicate_a, .ref t_firstTerm_a, .ref t_termMany_a, .ref t_partPlace_a, .int t_terms, .ref t_term_a, .ref t_depends_a, .int t_ruleCount, .ref t_partCount_a, .ref t_partSort_a, .ref t_partPredicate_a, .ref t_partTerms_a, .ref t_termOf_a, .ref t_variableCount_a, .ref t_kind_a, .ref t_width_a, .ref t_stratum_a, .ref t_holds_a, .ref t_held_a, .ref t_kept_a, .int t_changes, .int t_staged, .ref t_stage_a, .int t_logged, .int t_safe, .ref t_logs_a, .ref t_value_a, .int t_wanted, .int c_t_count, .int c_t_fresh])), (t_partCount_a, .inl (cI, 16, .inl t_partCount)), (t_partSort_a, .inl (cI, 96, .inl t_partSort)), (t_partPredicate_a, .inl (cI, 96, .inl t_partPredicate)), (t_partTerms_a, .inl (cI, 96, .inl t_partTerms)), (t_termOf_a, .inl (cI, 288, .inl t_termOf)), (t_variableCount_a, .inl (cI, 16, .inl t_variableCount)), (t_holds_a, .inl (cZ, 17280, .inl c_t_holds)), (t_value_a, .inl (cI, 6, .inl c_t_value))] H → va_D A [(t, .inr (9, [.int t_thrown, .ref t_tape_a, .int t_taped, .int t_fault, .int t_faultPlace, .int t_at, .int t_rules, .ref t_firstPart_a, .ref t_partMany_a, .ref t_rulePlace_a, .int t_parts, .ref t_sort_a, .ref t_predicate_a, .ref t_firstTerm_a, .ref t_termMany_a, .ref t_partPlace_a, .int t_terms, .ref t_term_a, .ref t_depends_a, .int t_ruleCount, .ref t_partCount_a, .ref t_partSort_a, .ref t_partPredicate_a, .ref t_partTerms_a, .ref t_termOf_a, .ref t_variableCount_a, .ref t_kind_a, .ref t_width_a, .ref t_stratum_a, .ref t_holds_a, .ref t_held_a, .ref t_kept_a, .int t_changes, .int t_staged, .ref t_stage_a, .int t_logged, .int t_safe, .ref t_logs_a, .ref t_value_a, .int t_wanted, .int c_t_count, .int c_t_fresh])), (t_partCount_a, .inl (cI, 16, .inl t_partCount)), (t_partSort_a, .inl (cI, 96, .inl t_partSort)), (t_partPredicate_a, .inl (cI, 96, .inl t_partPredicate)), (t_partTerms_a, .inl (cI, 96, .inl t_partTerms)), (t_termOf_a, .inl (cI, 288, .inl t_termOf)), (t_variableCount_a, .inl (cI, 16, .inl t_variableCount)), (t_holds_a, .inl (cZ, 17280, .inl c_t_holds)), (t_value_a, .inl (cI, 6, .inl c_t_value))] → va_S A s.heap H locs → lv_has ls 4 [(3, .int y3), (2, .int w2), (0, .ref t), (1, .int w1)] → W p l e { frames := 4, cells := 0, slots := 0, locals := 90 } s m args below meth c H locs 0 0 Q (F0 m 36 ls []) := by
    intro w2 w1 n
    induction n with
    | zero => intro y3 c_t_holds c_t_value c_t_count c_t_fresh z hm; unfold M_Model_tryAll_L36 at hm; cases hm
    | succ n ih =>
      intro y3 c_t_holds c_t_value c_t_count c_t_fresh z hm hE H locs ls hP hD hS hl
      unfold M_Model_tryAll_L36 at hm
      refine lv_iload_n hx hb dX9_tryAll_36 rfl (lv_at hl 0 rfl) ?_
      refine lv_if_lt (tgt := 106) hx hb dX9_tryAll_37 (by decide) (fun hc => ?_) (fun hc => ?_)
      · have hm := if_t hc hm
        cases hm
        exact hE H locs ls hP hD hS (lv_sub hl [] rfl)
      · have hm := if_f hc hm
        refine lv_aload_n hx hb dX9_tryAll_40 rfl (lv_at hl 2 rfl) ?_
        refine va_get (D := D) (ci := 9) (v := .ref t_value_a) (C := RX9) (T := TX9) (N := 42) hx hb hts in_X9 hown hK hP 0 rfl rfl 38 (by decide) (hts _ kf_X9_86) (fun _ h9 => h9) rfl dX9_tryAll_41 ?_
        refine lv_iload_n hx hb dX9_tryAll_44 rfl (lv_at hl 0 rfl) ?_
        refine lv_dup2_11 hx hb dX9_tryAll_45 rfl rfl ?_
        refine va_iald hx hb hK hP 8 1 rfl rfl (gd_in hm) dX9_tryAll_46 ?_
        have hm := gd_go hm
        refine lv_iconst (v := (1 : Int32)) hx hb dX9_tryAll_47 (by decide) ?_
        refine lv_iadd hx hb dX9_tryAll_48 ?_
        refine k_iast hx hb hK hP hD hS 8 1 rfl rfl (gd_in hm) dX9_tryAll_49 (fun f4 ef4 H locs hP hD hS => ?_)
        have hm := lt_at ef4 (gd_go hm)
        have hP : va_P D vwCl [(t, .inr (9, [.int t_thrown, .ref t_tape_a, .int t_taped, .int t_fault, .int t_faultPlace, .int t_at, .int t_rules, .ref t_firstPart_a, .ref t_partMany_a, .ref t_rulePlace_a, .int t_parts, .ref t_sort_a, .ref t_predicate_a, .ref t_firstTerm_a, .ref t_termMany_a, .ref t_partPlace_a, .int t_terms, .ref t_term_a, .ref t_depends_a, .int t_ruleCount, .ref t_partCount_a, .ref t_partSort_a, .ref t_partPredicate_a, .ref t_partTerms_a, .ref t_termOf_a, .ref t_variableCount_a, .ref t_kind_a, .ref t_width_a, .ref t_stratum_a, .ref t_holds_a, .ref t_held_a, .ref t_kept_a, .int t_changes, .int t_staged, .ref t_stage_a, .int t_logged, .int t_safe, .ref t_logs_a, .ref t_value_a, .int t_wanted, .int c_t_count, .int c_t_fresh])), (t_partCount_a, .inl (cI, 16, .inl t_partCount)), (t_partSort_a, .inl (cI, 96, .inl t_partSort)), (t_partPredicate_a, .inl (cI, 96, .inl t_partPredicate)), (t_partTerms_a, .inl (cI, 96, .inl t_partTerms)), (t_termOf_a, .inl (cI, 288, .inl t_termOf)), (t_variableCount_a, .inl (cI, 16, .inl t_variableCount)), (t_holds_a, .inl (cZ, 17280, .inl c_t_holds)), (t_value_a, .inl (cI, 6, .inl f4))] H := hP
        have hD : va_D A [(t, .inr (9, [.int t_thrown, .ref t_tape_a, .int t_taped, .int t_fault, .int t_faultPlace, .int t_at, .int t_rules, .ref t_firstPart_a, .ref t_partMany_a, .ref t_rulePlace_a, .int t_parts, .ref t_sort_a, .ref t_predicate_a, .ref t_firstTerm_a, .ref t_termMany_a, .ref t_partPlace_a, .int t_terms, .ref t_term_a, .ref t_depends_a, .int t_ruleCount, .ref t_partCount_a, .ref t_partSort_a, .ref t_partPredicate_a, .ref t_partTerms_a, .ref t_termOf_a, .ref t_variableCount_a, .ref t_kind_a, .ref t_width_a, .ref t_stratum_a, .ref t_holds_a, .ref t_held_a, .ref t_kept_a, .int t_changes, .int t_staged, .ref t_stage_a, .int t_logged, .int t_safe, .ref t_logs_a, .ref t_value_a, .int t_wanted, .int c_t_count, .int c_t_fresh])), (t_partCount_a, .inl (cI, 16, .inl t_partCount)), (t_partSort_a, .inl (cI, 96, .inl t_partSort)), (t_partPredicate_a, .inl (cI, 96, .inl t_partPredicate)), (t_partTerms_a, .inl (cI, 96, .inl t_partTerms)), (t_termOf_a, .inl (cI, 288, .inl t_termOf)), (t_variableCount_a, .inl (cI, 16, .inl t_variableCount)), (t_holds_a, .inl (cZ, 17280, .inl c_t_holds)), (t_value_a, .inl (cI, 6, .inl f4))] := hD
        refine lv_aload_n hx hb dX9_tryAll_50 rfl (lv_at hl 2 rfl) ?_
        refine va_get (D := D) (ci := 9) (v := .ref t_value_a) (C := RX9) (T := TX9) (N := 42) hx hb hts in_X9 hown hK hP 0 rfl rfl 38 (by decide) (hts _ kf_X9_86) (fun _ h9 => h9) rfl dX9_tryAll_51 ?_
        refine lv_iload_n hx hb dX9_tryAll_54 rfl (lv_at hl 0 rfl) ?_
        refine va_iald hx hb hK hP 8 1 rfl rfl (gd_in hm) dX9_tryAll_55 ?_
        have hm := gd_go hm
        refine lv_bipush (v := (12 : Int32)) hx hb dX9_tryAll_56 (by decide) ?_
        refine lv_icmp_ne (tgt := 67) hx hb dX9_tryAll_58 (by decide) (fun hc => ?_) (fun hc => ?_)
        · have hm := if_f hc hm
          refine lv_aload_n hx hb dX9_tryAll_67 rfl (lv_at hl 2 rfl) ?_
          refine lv_iload_n hx hb dX9_tryAll_68 rfl (lv_at hl 3 rfl) ?_
          refine lv_iload_n hx hb dX9_tryAll_69 rfl (lv_at hl 0 rfl) ?_
          refine lv_iconst (v := (1 : Int32)) hx hb dX9_tryAll_70 (by decide) ?_
          refine lv_iadd hx hb dX9_tryAll_71 ?_
          obtain ⟨z5, hz5, hm⟩ := bd_at hm
          refine k_callV (As := [.int w1, .int (y3 + (1 : Int32))]) (rest := []) (wr := [(t_variableCount_a, .inl (cI, 16, .inl t_variableCount))]) (ws1 := [(t, .inr (9, [.int t_thrown, .ref t_tape_a, .int t_taped, .int t_fault, .int t_faultPlace, .int t_at, .int t_rules, .ref t_firstPart_a, .ref t_partMany_a, .ref t_rulePlace_a, .int t_parts, .ref t_sort_a, .ref t_predicate_a, .ref t_firstTerm_a, .ref t_termMany_a, .ref t_partPlace_a, .int t_terms, .ref t_term_a, .ref t_depends_a, .int t_ruleCount, .ref t_partCount_a, .ref t_partSort_a, .ref t_partPredicate_a, .ref t_partTerms_a, .ref t_termOf_a, .ref t_variableCount_a, .ref t_kind_a, .ref t_width_a, .ref t_stratum_a, .ref t_holds_a, .ref t_held_a, .ref t_kept_a, .int t_changes, .int t_staged, .ref t_stage_a, .int t_logged, .int t_safe, .ref t_logs_a, .ref t_value_a, .int t_wanted, .int c_t_count, .int c_t_fresh])), (t_partCount_a, .inl (cI, 16, .inl t_partCount)), (t_partSort_a, .inl (cI, 96, .inl t_partSort)), (t_partPredicate_a, .inl (cI, 96, .inl t_partPredicate)), (t_partTerms_a, .inl (cI, 96, .inl t_partTerms)), (t_termOf_a, .inl (cI, 288, .inl t_termOf)), (t_variableCount_a, .inl (cI, 16, .inl t_variableCount)), (t_holds_a, .inl (cZ, 17280, .inl c_t_holds)), (t_value_a, .inl (cI, 6, .inl f4))]) [0, 1, 2, 3, 4, 5, 7, 8] [6] [1, 2, 3, 4, 5, 6, 0, 7, 8] (K_Model_goes l D cB cI cZ cJ t t_tape_a t_firstPart_a t_partMany_a t_rulePlace_a t_sort_a t_predicate_a t_firstTerm_a t_termMany_a t_partPlace_a t_term_a t_depends_a t_partCount_a t_partSort_a t_partPredicate_a t_partTerms_a t_termOf_a t_variableCount_a t_kind_a t_width_a t_stratum_a t_holds_a t_held_a t_kept_a t_stage_a t_logs_a t_value_a t_thrown t_taped t_fault t_faultPlace t_at t_rules t_parts t_terms t_ruleCount t_changes t_staged t_logged t_safe t_wanted c_t_count c_t_fresh t_partCount t_partSort t_partPredicate t_partTerms t_termOf c_t_holds f4 w1 (y3 + (1 : Int32)) F z5 hz5) mf_X9_goes km_X9_237 hx hb hml hown hts hK hP hD hS hA hl.1 ⟨Nat.zero_le _, Nat.zero_le _⟩ dX9_tryAll_72 rfl rfl (Nat.le_of_ble_eq_true rfl) ⟨⟨rfl, rfl⟩, Nat.le_of_ble_eq_true rfl, Nat.le_of_ble_eq_true rfl⟩ rfl rfl (by decide) rfl rfl rfl rfl (fun H locs hP hD hS => ?_)
          have hP : va_P D vwCl [(t, .inr (9, [.int t_thrown, .ref t_tape_a, .int t_taped, .int t_fault, .int t_faultPlace, .int t_at, .int t_rules, .ref t_firstPart_a, .ref t_partMany_a, .ref t_rulePlace_a, .int t_parts, .ref t_sort_a, .ref t_predicate_a, .ref t_firstTerm_a, .ref t_termMany_a, .ref t_partPlace_a, .int t_terms, .ref t_term_a, .ref t_depends_a, .int t_ruleCount, .ref t_partCount_a, .ref t_partSort_a, .ref t_partPredicate_a, .ref t_partTerms_a, .ref t_termOf_a, .ref t_variableCount_a, .ref t_kind_a, .ref t_width_a, .ref t_stratum_a, .ref t_holds_a, .ref t_held_a, .ref t_kept_a, .int t_changes, .int t_staged, .ref t_stage_a, .int t_logged, .int t_safe, .ref t_logs_a, .ref t_value_a, .int t_wanted, .int c_t_count, .int c_t_fresh])), (t_partCount_a, .inl (cI, 16, .inl t_partCount)), (t_partSort_a, .inl (cI, 96, .inl t_partSort)), (t_partPredicate_a, .inl (cI, 96, .inl t_partPredicate)), (t_partTerms_a, .inl (cI, 96, .inl t_partTerms)), (t_termOf_a, .inl (cI, 288, .inl t_termOf)), (t_variableCount_a, .inl (cI, 16, .inl t_variableCount)), (t_holds_a, .inl (cZ, 17280, .inl c_t_holds)), (t_value_a, .inl (cI, 6, .inl f4))] H := hP
          have hD : va_D A [(t, .inr (9, [.int t_thrown, .ref t_tape_a, .int t_taped, .int t_fault, .int t_faultPlace, .int t_at, .int t_rules, .ref t_firstPart_a, .ref t_partMany_a, .ref t_rulePlace_a, .int t_parts, .ref t_sort_a, .ref t_predicate_a, .ref t_firstTerm_a, .ref t_termMany_a, .ref t_partPlace_a, .int t_terms, .ref t_term_a, .ref t_depends_a, .int t_ruleCount, .ref t_partCount_a, .ref t_partSort_a, .ref t_partPredicate_a, .ref t_partTerms_a, .ref t_termOf_a, .ref t_variableCount_a, .ref t_kind_a, .ref t_width_a, .ref t_stratum_a, .ref t_holds_a, .ref t_held_a, .ref t_kept_a, .int t_changes, .int t_staged, .ref t_stage_a, .int t_logged, .int t_safe, .ref t_logs_a, .ref t_value_a, .int t_wanted, .int c_t_count, .int c_t_fresh])), (t_partCount_a, .inl (cI, 16, .inl t_partCount)), (t_partSort_a, .inl (cI, 96, .inl t_partSort)), (t_partPredicate_a, .inl (cI, 96, .inl t_partPredicate)), (t_partTerms_a, .inl (cI, 96, .inl t_partTerms)), (t_termOf_a, .inl (cI, 288, .inl t_termOf)), (t_variableCount_a, .inl (cI, 16, .inl t_variableCount)), (t_holds_a, .inl (cZ, 17280, .inl c_t_holds)), (t_value_a, .inl (cI, 6, .inl f4))] := hD
          refine lv_if_eq (tgt := 36) hx hb dX9_tryAll_75 (by decide) (fun hc => ?_) (fun hc => ?_)
          · have hm := if_t hc hm
            exact ih y3 c_t_holds f4 c_t_count c_t_fresh z hm hE H locs ls hP hD hS (lv_sub hl [0, 1, 2, 3] rfl)
          · have hm := if_f hc hm
            refine lv_iload_n hx hb dX9_tryAll_78 rfl (lv_at hl 0 rfl) ?_
            refine lv_iconst (v := (1 : Int32)) hx hb dX9_tryAll_79 (by decide) ?_
            refine lv_iadd hx hb dX9_tryAll_80 ?_
            refine lv_iload_n hx hb dX9_tryAll_81 rfl (lv_at hl 1 rfl) ?_
            refine lv_icmp_ne (tgt := 93) hx hb dX9_tryAll_82 (by decide) (fun hc => ?_) (fun hc => ?_)
            · have hm := if_f hc hm
              obtain ⟨v6, ev6⟩ : ∃ y : Int32, y = y3 + (1 : Int32) := ⟨_, rfl⟩
              have hm := lt_at ev6 hm
              refine lv_iinc (v := v6) (lv' := [(3, .int v6), (2, .int w2), (0, .ref t), (1, .int w1)]) hx hb dX9_tryAll_93 hl (k := 0) rfl (by rw [ev6]; rfl) (by decide) rfl (fun ls hl => ?_)
              refine lv_aload_n hx hb dX9_tryAll_96 rfl (lv_at hl 2 rfl) ?_
              refine va_get (D := D) (ci := 9) (v := .ref t_value_a) (C := RX9) (T := TX9) (N := 42) hx hb hts in_X9 hown hK hP 0 rfl rfl 38 (by decide) (hts _ kf_X9_86) (fun _ h9 => h9) rfl dX9_tryAll_97 ?_
              refine lv_iload_n hx hb dX9_tryAll_100 rfl (lv_at hl 0 rfl) ?_
              refine lv_iconst (v := (-1 : Int32)) hx hb dX9_tryAll_101 (by decide) ?_
              refine k_iast hx hb hK hP hD hS 8 1 rfl rfl (gd_in hm) dX9_tryAll_102 (fun f7 ef7 H locs hP hD hS => ?_)
              have hm := lt_at ef7 (gd_go hm)
              have hP : va_P D vwCl [(t, .inr (9, [.int t_thrown, .ref t_tape_a, .int t_taped, .int t_fault, .int t_faultPlace, .int t_at, .int t_rules, .ref t_firstPart_a, .ref t_partMany_a, .ref t_rulePlace_a, .int t_parts, .ref t_sort_a, .ref t_predicate_a, .ref t_firstTerm_a, .ref t_termMany_a, .ref t_partPlace_a, .int t_terms, .ref t_term_a, .ref t_depends_a, .int t_ruleCount, .ref t_partCount_a, .ref t_partSort_a, .ref t_partPredicate_a, .ref t_partTerms_a, .ref t_termOf_a, .ref t_variableCount_a, .ref t_kind_a, .ref t_width_a, .ref t_stratum_a, .ref t_holds_a, .ref t_held_a, .ref t_kept_a, .int t_changes, .int t_staged, .ref t_stage_a, .int t_logged, .int t_safe, .ref t_logs_a, .ref t_value_a, .int t_wanted, .int c_t_count, .int c_t_fresh])), (t_partCount_a, .inl (cI, 16, .inl t_partCount)), (t_partSort_a, .inl (cI, 96, .inl t_partSort)), (t_partPredicate_a, .inl (cI, 96, .inl t_partPredicate)), (t_partTerms_a, .inl (cI, 96, .inl t_partTerms)), (t_termOf_a, .inl (cI, 288, .inl t_termOf)), (t_variableCount_a, .inl (cI, 16, .inl t_variableCount)), (t_holds_a, .inl (cZ, 17280, .inl c_t_holds)), (t_value_a, .inl (cI, 6, .inl f7))] H := hP
              have hD : va_D A [(t, .inr (9, [.int t_thrown, .ref t_tape_a, .int t_taped, .int t_fault, .int t_faultPlace, .int t_at, .int t_rules, .ref t_firstPart_a, .ref t_partMany_a, .ref t_rulePlace_a, .int t_parts, .ref t_sort_a, .ref t_predicate_a, .ref t_firstTerm_a, .ref t_termMany_a, .ref t_partPlace_a, .int t_terms, .ref t_term_a, .ref t_depends_a, .int t_ruleCount, .ref t_partCount_a, .ref t_partSort_a, .ref t_partPredicate_a, .ref t_partTerms_a, .ref t_termOf_a, .ref t_variableCount_a, .ref t_kind_a, .ref t_width_a, .ref t_stratum_a, .ref t_holds_a, .ref t_held_a, .ref t_kept_a, .int t_changes, .int t_staged, .ref t_stage_a, .int t_logged, .int t_safe, .ref t_logs_a, .ref t_value_a, .int t_wanted, .int c_t_count, .int c_t_fresh])), (t_partCount_a, .inl (cI, 16, .inl t_partCount)), (t_partSort_a, .inl (cI, 96, .inl t_partSort)), (t_partPredicate_a, .inl (cI, 96, .inl t_partPredicate)), (t_partTerms_a, .inl (cI, 96, .inl t_partTerms)), (t_termOf_a, .inl (cI, 288, .inl t_termOf)), (t_variableCount_a, .inl (cI, 16, .inl t_variableCount)), (t_holds_a, .inl (cZ, 17280, .inl c_t_holds)), (t_value_a, .inl (cI, 6, .inl f7))] := hD
              refine lv_goto (tgt := 36) hx hb dX9_tryAll_103 (by decide) ?_
              exact ih v6 c_t_holds f7 c_t_count c_t_fresh z hm hE H locs ls hP hD hS (lv_sub hl [0, 1, 2, 3] rfl)
            · have hm := if_t hc hm
              refine lv_aload_n hx hb dX9_tryAll_85 rfl (lv_at hl 2 rfl) ?_
              refine lv_iload_n hx hb dX9_tryAll_86 rfl (lv_at hl 3 rfl) ?_
              obtain ⟨z8, hz8, hm⟩ := bd_at hm
              refine k_callV (As := [.int w1]) (rest := []) (wr := [(t_partCount_a, .inl (cI, 16, .inl t_partCount)), (t_partSort_a, .inl (cI, 96, .inl t_partSort)), (t_variableCount_a, .inl (cI, 16, .inl t_variableCount))]) (ws1 := [(t, .inr (9, [.int t_thrown, .ref t_tape_a, .int t_taped, .int t_fault, .int t_faultPlace, .int t_at, .int t_rules, .ref t_firstPart_a, .ref t_partMany_a, .ref t_rulePlace_a, .int t_parts, .ref t_sort_a, .ref t_predicate_a, .ref t_firstTerm_a, .ref t_termMany_a, .ref t_partPlace_a, .int t_terms, .ref t_term_a, .ref t_depends_a, .int t_ruleCount, .ref t_partCount_a, .ref t_partSort_a, .ref t_partPredicate_a, .ref t_partTerms_a, .ref t_termOf_a, .ref t_variableCount_a, .ref t_kind_a, .ref t_width_a, .ref t_stratum_a, .ref t_holds_a, .ref t_held_a, .ref t_kept_a, .int t_changes, .int t_staged, .ref t_stage_a, .int t_logged, .int t_safe, .ref t_logs_a, .ref t_value_a, .int t_wanted, .int z8.2.1, .int z8.2.2])), (t_partCount_a, .inl (cI, 16, .inl t_partCount)), (t_partSort_a, .inl (cI, 96, .inl t_partSort)), (t_partPredicate_a, .inl (cI, 96, .inl t_partPredicate)), (t_partTerms_a, .inl (cI, 96, .inl t_partTerms)), (t_termOf_a, .inl (cI, 288, .inl t_termOf)), (t_variableCount_a, .inl (cI, 16, .inl t_variableCount)), (t_holds_a, .inl (cZ, 17280, .inl z8.1)), (t_value_a, .inl (cI, 6, .inl f4))]) [0, 3, 4, 5, 7, 8] [1, 2, 6] [3, 0, 1, 4, 5, 6, 2, 7, 8] (K_Model_found l D cB cI cZ cJ t t_tape_a t_firstPart_a t_partMany_a t_rulePlace_a t_sort_a t_predicate_a t_firstTerm_a t_termMany_a t_partPlace_a t_term_a t_depends_a t_partCount_a t_partSort_a t_partPredicate_a t_partTerms_a t_termOf_a t_variableCount_a t_kind_a t_width_a t_stratum_a t_holds_a t_held_a t_kept_a t_stage_a t_logs_a t_value_a t_thrown t_taped t_fault t_faultPlace t_at t_rules t_parts t_terms t_ruleCount t_changes t_staged t_logged t_safe t_wanted c_t_count c_t_fresh t_partPredicate t_partTerms t_termOf c_t_holds f4 w1 F z8 hz8) mf_X9_found km_X9_240 hx hb hml hown hts hK hP hD hS hA hl.1 ⟨Nat.zero_le _, Nat.zero_le _⟩ dX9_tryAll_87 rfl rfl (Nat.le_of_ble_eq_true rfl) ⟨⟨rfl, rfl⟩, Nat.le_of_ble_eq_true rfl, Nat.le_of_ble_eq_true rfl⟩ rfl rfl (by decide) rfl rfl rfl rfl (fun H locs hP hD hS => ?_)
              have hP : va_P D vwCl [(t, .inr (9, [.int t_thrown, .ref t_tape_a, .int t_taped, .int t_fault, .int t_faultPlace, .int t_at, .int t_rules, .ref t_firstPart_a, .ref t_partMany_a, .ref t_rulePlace_a, .int t_parts, .ref t_sort_a, .ref t_predicate_a, .ref t_firstTerm_a, .ref t_termMany_a, .ref t_partPlace_a, .int t_terms, .ref t_term_a, .ref t_depends_a, .int t_ruleCount, .ref t_partCount_a, .ref t_partSort_a, .ref t_partPredicate_a, .ref t_partTerms_a, .ref t_termOf_a, .ref t_variableCount_a, .ref t_kind_a, .ref t_width_a, .ref t_stratum_a, .ref t_holds_a, .ref t_held_a, .ref t_kept_a, .int t_changes, .int t_staged, .ref t_stage_a, .int t_logged, .int t_safe, .ref t_logs_a, .ref t_value_a, .int t_wanted, .int z8.2.1, .int z8.2.2])), (t_partCount_a, .inl (cI, 16, .inl t_partCount)), (t_partSort_a, .inl (cI, 96, .inl t_partSort)), (t_partPredicate_a, .inl (cI, 96, .inl t_partPredicate)), (t_partTerms_a, .inl (cI, 96, .inl t_partTerms)), (t_termOf_a, .inl (cI, 288, .inl t_termOf)), (t_variableCount_a, .inl (cI, 16, .inl t_variableCount)), (t_holds_a, .inl (cZ, 17280, .inl z8.1)), (t_value_a, .inl (cI, 6, .inl f4))] H := hP
              have hD : va_D A [(t, .inr (9, [.int t_thrown, .ref t_tape_a, .int t_taped, .int t_fault, .int t_faultPlace, .int t_at, .int t_rules, .ref t_firstPart_a, .ref t_partMany_a, .ref t_rulePlace_a, .int t_parts, .ref t_sort_a, .ref t_predicate_a, .ref t_firstTerm_a, .ref t_termMany_a, .ref t_partPlace_a, .int t_terms, .ref t_term_a, .ref t_depends_a, .int t_ruleCount, .ref t_partCount_a, .ref t_partSort_a, .ref t_partPredicate_a, .ref t_partTerms_a, .ref t_termOf_a, .ref t_variableCount_a, .ref t_kind_a, .ref t_width_a, .ref t_stratum_a, .ref t_holds_a, .ref t_held_a, .ref t_kept_a, .int t_changes, .int t_staged, .ref t_stage_a, .int t_logged, .int t_safe, .ref t_logs_a, .ref t_value_a, .int t_wanted, .int z8.2.1, .int z8.2.2])), (t_partCount_a, .inl (cI, 16, .inl t_partCount)), (t_partSort_a, .inl (cI, 96, .inl t_partSort)), (t_partPredicate_a, .inl (cI, 96, .inl t_partPredicate)), (t_partTerms_a, .inl (cI, 96, .inl t_partTerms)), (t_termOf_a, .inl (cI, 288, .inl t_termOf)), (t_variableCount_a, .inl (cI, 16, .inl t_variableCount)), (t_holds_a, .inl (cZ, 17280, .inl z8.1)), (t_value_a, .inl (cI, 6, .inl f4))] := hD
              refine lv_goto (tgt := 36) hx hb dX9_tryAll_90 (by decide) ?_
              exact ih y3 z8.1 f4 z8.2.1 z8.2.2 z hm hE H locs ls hP hD hS (lv_sub hl [0, 1, 2, 3] rfl)
        · have hm := if_t hc hm
          obtain ⟨v9, ev9⟩ : ∃ y : Int32, y = y3 + (-1 : Int32) := ⟨_, rfl⟩
          have hm := lt_at ev9 hm
          refine lv_iinc (v := v9) (lv' := [(3, .int v9), (2, .int w2), (0, .ref t), (1, .int w1)]) hx hb dX9_tryAll_61 hl (k := 0) rfl (by rw [ev9]; rfl) (by decide) rfl (fun ls hl => ?_)
          refine lv_goto (tgt := 36) hx hb dX9_tryAll_64 (by decide) ?_
          exact ih v9 c_t_holds f4 c_t_count c_t_fresh z hm hE H locs ls hP hD hS (lv_sub hl [0, 1, 2, 3] rfl)
  unfold M_Model_tryAll at hm
  obtain ⟨H, eH⟩ : ∃ H, H = s.heap := ⟨_, rfl⟩
  obtain ⟨locs, el⟩ : ∃ x : List Loc, x = [] := ⟨_, rfl⟩
  have hP : va_P D vwCl [(t, .inr (9, [.int t_thrown, .ref t_tape_a, .int t_taped, .int t_fault, .int t_faultPlace, .int t_at, .int t_rules, .ref t_firstPart_a, .ref t_partMany_a, .ref t_rulePlace_a, .int t_parts, .ref t_sort_a, .ref t_predicate_a, .ref t_firstTerm_a, .ref t_termMany_a, .ref t_partPlace_a, .int t_terms, .ref t_term_a, .ref t_depends_a, .int t_ruleCount, .ref t_partCount_a, .ref t_partSort_a, .ref t_partPredicate_a, .ref t_partTerms_a, .ref t_termOf_a, .ref t_variableCount_a, .ref t_kind_a, .ref t_width_a, .ref t_stratum_a, .ref t_holds_a, .ref t_held_a, .ref t_kept_a, .int t_changes, .int t_staged, .ref t_stage_a, .int t_logged, .int t_safe, .ref t_logs_a, .ref t_value_a, .int t_wanted, .int t_count, .int t_fresh])), (t_partCount_a, .inl (cI, 16, .inl t_partCount)), (t_partSort_a, .inl (cI, 96, .inl t_partSort)), (t_partPredicate_a, .inl (cI, 96, .inl t_partPredicate)), (t_partTerms_a, .inl (cI, 96, .inl t_partTerms)), (t_termOf_a, .inl (cI, 288, .inl t_termOf)), (t_variableCount_a, .inl (cI, 16, .inl t_variableCount)), (t_holds_a, .inl (cZ, 17280, .inl t_holds)), (t_value_a, .inl (cI, 6, .inl t_value))] H := eH ▸ hP
  have hS : va_S A s.heap H locs := by rw [eH, el]; exact hS
  suffices hW : W p l e { frames := 4, cells := 0, slots := 0, locals := 90 } s m args below meth c H locs 0 0 Q (F0 m 0 ls []) by rw [eH, el] at hW; exact hW
  clear eH el
  refine lv_aload_n hx hb dX9_tryAll_0 rfl (lv_at hl 0 rfl) ?_
  refine va_get (D := D) (ci := 9) (v := .ref t_variableCount_a) (C := RX9) (T := TX9) (N := 42) hx hb hts in_X9 hown hK hP 0 rfl rfl 25 (by decide) (hts _ kf_X9_59) (fun _ h9 => h9) rfl dX9_tryAll_1 ?_
  refine lv_iload_n hx hb dX9_tryAll_4 rfl (lv_at hl 1 rfl) ?_
  refine va_iald hx hb hK hP 6 1 rfl rfl (gd_in hm) dX9_tryAll_5 ?_
  have hm := gd_go hm
  refine lv_topi (fun v1 ev1 => ?_)
  have hm := lt_at ev1 hm
  refine lv_istore_n (lv' := [(2, .int v1), (0, .ref t), (1, .int x0)]) hx hb dX9_tryAll_6 rfl hl (by decide) rfl (fun ls hl => ?_)
  refine lv_aload_n hx hb dX9_tryAll_7 rfl (lv_at hl 1 rfl) ?_
  refine lv_iload_n hx hb dX9_tryAll_8 rfl (lv_at hl 2 rfl) ?_
  refine lv_iconst (v := (0 : Int32)) hx hb dX9_tryAll_9 (by decide) ?_
  obtain ⟨z2, hz2, hm⟩ := bd_at hm
  refine k_callV (As := [.int x0, .int (0 : Int32)]) (rest := []) (wr := [(t_variableCount_a, .inl (cI, 16, .inl t_variableCount))]) (ws1 := [(t, .inr (9, [.int t_thrown, .ref t_tape_a, .int t_taped, .int t_fault, .int t_faultPlace, .int t_at, .int t_rules, .ref t_firstPart_a, .ref t_partMany_a, .ref t_rulePlace_a, .int t_parts, .ref t_sort_a, .ref t_predicate_a, .ref t_firstTerm_a, .ref t_termMany_a, .ref t_partPlace_a, .int t_terms, .ref t_term_a, .ref t_depends_a, .int t_ruleCount, .ref t_partCount_a, .ref t_partSort_a, .ref t_partPredicate_a, .ref t_partTerms_a, .ref t_termOf_a, .ref t_variableCount_a, .ref t_kind_a, .ref t_width_a, .ref t_stratum_a, .ref t_holds_a, .ref t_held_a, .ref t_kept_a, .int t_changes, .int t_staged, .ref t_stage_a, .int t_logged, .int t_safe, .ref t_logs_a, .ref t_value_a, .int t_wanted, .int t_count, .int t_fresh])), (t_partCount_a, .inl (cI, 16, .inl t_partCount)), (t_partSort_a, .inl (cI, 96, .inl t_partSort)), (t_partPredicate_a, .inl (cI, 96, .inl t_partPredicate)), (t_partTerms_a, .inl (cI, 96, .inl t_partTerms)), (t_termOf_a, .inl (cI, 288, .inl t_termOf)), (t_variableCount_a, .inl (cI, 16, .inl t_variableCount)), (t_holds_a, .inl (cZ, 17280, .inl t_holds)), (t_value_a, .inl (cI, 6, .inl t_value))]) [0, 1, 2, 3, 4, 5, 7, 8] [6] [1, 2, 3, 4, 5, 6, 0, 7, 8] (K_Model_goes l D cB cI cZ cJ t t_tape_a t_firstPart_a t_partMany_a t_rulePlace_a t_sort_a t_predicate_a t_firstTerm_a t_termMany_a t_partPlace_a t_term_a t_depends_a t_partCount_a t_partSort_a t_partPredicate_a t_partTerms_a t_termOf_a t_variableCount_a t_kind_a t_width_a t_stratum_a t_holds_a t_held_a t_kept_a t_stage_a t_logs_a t_value_a t_thrown t_taped t_fault t_faultPlace t_at t_rules t_parts t_terms t_ruleCount t_changes t_staged t_logged t_safe t_wanted t_count t_fresh t_partCount t_partSort t_partPredicate t_partTerms t_termOf t_holds t_value x0 (0 : Int32) F z2 hz2) mf_X9_goes km_X9_237 hx hb hml hown hts hK hP hD hS hA hl.1 ⟨Nat.zero_le _, Nat.zero_le _⟩ dX9_tryAll_10 rfl rfl (Nat.le_of_ble_eq_true rfl) ⟨⟨rfl, rfl⟩, Nat.le_of_ble_eq_true rfl, Nat.le_of_ble_eq_true rfl⟩ rfl rfl (by decide) rfl rfl rfl rfl (fun H locs hP hD hS => ?_)
  have hP : va_P D vwCl [(t, .inr (9, [.int t_thrown, .ref t_tape_a, .int t_taped, .int t_fault, .int t_faultPlace, .int t_at, .int t_rules, .ref t_firstPart_a, .ref t_partMany_a, .ref t_rulePlace_a, .int t_parts, .ref t_sort_a, .ref t_predicate_a, .ref t_firstTerm_a, .ref t_termMany_a, .ref t_partPlace_a, .int t_terms, .ref t_term_a, .ref t_depends_a, .int t_ruleCount, .ref t_partCount_a, .ref t_partSort_a, .ref t_partPredicate_a, .ref t_partTerms_a, .ref t_termOf_a, .ref t_variableCount_a, .ref t_kind_a, .ref t_width_a, .ref t_stratum_a, .ref t_holds_a, .ref t_held_a, .ref t_kept_a, .int t_changes, .int t_staged, .ref t_stage_a, .int t_logged, .int t_safe, .ref t_logs_a, .ref t_value_a, .int t_wanted, .int t_count, .int t_fresh])), (t_partCount_a, .inl (cI, 16, .inl t_partCount)), (t_partSort_a, .inl (cI, 96, .inl t_partSort)), (t_partPredicate_a, .inl (cI, 96, .inl t_partPredicate)), (t_partTerms_a, .inl (cI, 96, .inl t_partTerms)), (t_termOf_a, .inl (cI, 288, .inl t_termOf)), (t_variableCount_a, .inl (cI, 16, .inl t_variableCount)), (t_holds_a, .inl (cZ, 17280, .inl t_holds)), (t_value_a, .inl (cI, 6, .inl t_value))] H := hP
  have hD : va_D A [(t, .inr (9, [.int t_thrown, .ref t_tape_a, .int t_taped, .int t_fault, .int t_faultPlace, .int t_at, .int t_rules, .ref t_firstPart_a, .ref t_partMany_a, .ref t_rulePlace_a, .int t_parts, .ref t_sort_a, .ref t_predicate_a, .ref t_firstTerm_a, .ref t_termMany_a, .ref t_partPlace_a, .int t_terms, .ref t_term_a, .ref t_depends_a, .int t_ruleCount, .ref t_partCount_a, .ref t_partSort_a, .ref t_partPredicate_a, .ref t_partTerms_a, .ref t_termOf_a, .ref t_variableCount_a, .ref t_kind_a, .ref t_width_a, .ref t_stratum_a, .ref t_holds_a, .ref t_held_a, .ref t_kept_a, .int t_changes, .int t_staged, .ref t_stage_a, .int t_logged, .int t_safe, .ref t_logs_a, .ref t_value_a, .int t_wanted, .int t_count, .int t_fresh])), (t_partCount_a, .inl (cI, 16, .inl t_partCount)), (t_partSort_a, .inl (cI, 96, .inl t_partSort)), (t_partPredicate_a, .inl (cI, 96, .inl t_partPredicate)), (t_partTerms_a, .inl (cI, 96, .inl t_partTerms)), (t_termOf_a, .inl (cI, 288, .inl t_termOf)), (t_variableCount_a, .inl (cI, 16, .inl t_variableCount)), (t_holds_a, .inl (cZ, 17280, .inl t_holds)), (t_value_a, .inl (cI, 6, .inl t_value))] := hD
  refine lv_if_ne (tgt := 17) hx hb dX9_tryAll_13 (by decide) (fun hc => ?_) (fun hc => ?_)
  · have hm := if_f hc hm
    refine lv_iconst (v := (0 : Int32)) hx hb dX9_tryAll_17 (by decide) ?_
    refine lv_istore_n (lv' := [(3, .int (0 : Int32)), (2, .int v1), (0, .ref t), (1, .int x0)]) hx hb dX9_tryAll_18 rfl hl (by decide) rfl (fun ls hl => ?_)
    refine lv_aload_n hx hb dX9_tryAll_19 rfl (lv_at hl 2 rfl) ?_
    refine va_get (D := D) (ci := 9) (v := .ref t_value_a) (C := RX9) (T := TX9) (N := 42) hx hb hts in_X9 hown hK hP 0 rfl rfl 38 (by decide) (hts _ kf_X9_86) (fun _ h9 => h9) rfl dX9_tryAll_20 ?_
    refine lv_iconst (v := (0 : Int32)) hx hb dX9_tryAll_23 (by decide) ?_
    refine lv_iconst (v := (-1 : Int32)) hx hb dX9_tryAll_24 (by decide) ?_
    refine k_iast hx hb hK hP hD hS 8 1 rfl rfl (gd_in hm) dX9_tryAll_25 (fun f3 ef3 H locs hP hD hS => ?_)
    have hm := lt_at ef3 (gd_go hm)
    have hP : va_P D vwCl [(t, .inr (9, [.int t_thrown, .ref t_tape_a, .int t_taped, .int t_fault, .int t_faultPlace, .int t_at, .int t_rules, .ref t_firstPart_a, .ref t_partMany_a, .ref t_rulePlace_a, .int t_parts, .ref t_sort_a, .ref t_predicate_a, .ref t_firstTerm_a, .ref t_termMany_a, .ref t_partPlace_a, .int t_terms, .ref t_term_a, .ref t_depends_a, .int t_ruleCount, .ref t_partCount_a, .ref t_partSort_a, .ref t_partPredicate_a, .ref t_partTerms_a, .ref t_termOf_a, .ref t_variableCount_a, .ref t_kind_a, .ref t_width_a, .ref t_stratum_a, .ref t_holds_a, .ref t_held_a, .ref t_kept_a, .int t_changes, .int t_staged, .ref t_stage_a, .int t_logged, .int t_safe, .ref t_logs_a, .ref t_value_a, .int t_wanted, .int t_count, .int t_fresh])), (t_partCount_a, .inl (cI, 16, .inl t_partCount)), (t_partSort_a, .inl (cI, 96, .inl t_partSort)), (t_partPredicate_a, .inl (cI, 96, .inl t_partPredicate)), (t_partTerms_a, .inl (cI, 96, .inl t_partTerms)), (t_termOf_a, .inl (cI, 288, .inl t_termOf)), (t_variableCount_a, .inl (cI, 16, .inl t_variableCount)), (t_holds_a, .inl (cZ, 17280, .inl t_holds)), (t_value_a, .inl (cI, 6, .inl f3))] H := hP
    have hD : va_D A [(t, .inr (9, [.int t_thrown, .ref t_tape_a, .int t_taped, .int t_fault, .int t_faultPlace, .int t_at, .int t_rules, .ref t_firstPart_a, .ref t_partMany_a, .ref t_rulePlace_a, .int t_parts, .ref t_sort_a, .ref t_predicate_a, .ref t_firstTerm_a, .ref t_termMany_a, .ref t_partPlace_a, .int t_terms, .ref t_term_a, .ref t_depends_a, .int t_ruleCount, .ref t_partCount_a, .ref t_partSort_a, .ref t_partPredicate_a, .ref t_partTerms_a, .ref t_termOf_a, .ref t_variableCount_a, .ref t_kind_a, .ref t_width_a, .ref t_stratum_a, .ref t_holds_a, .ref t_held_a, .ref t_kept_a, .int t_changes, .int t_staged, .ref t_stage_a, .int t_logged, .int t_safe, .ref t_logs_a, .ref t_value_a, .int t_wanted, .int t_count, .int t_fresh])), (t_partCount_a, .inl (cI, 16, .inl t_partCount)), (t_partSort_a, .inl (cI, 96, .inl t_partSort)), (t_partPredicate_a, .inl (cI, 96, .inl t_partPredicate)), (t_partTerms_a, .inl (cI, 96, .inl t_partTerms)), (t_termOf_a, .inl (cI, 288, .inl t_termOf)), (t_variableCount_a, .inl (cI, 16, .inl t_variableCount)), (t_holds_a, .inl (cZ, 17280, .inl t_holds)), (t_value_a, .inl (cI, 6, .inl f3))] := hD
    refine lv_iload_n hx hb dX9_tryAll_26 rfl (lv_at hl 1 rfl) ?_
    refine lv_if_ne (tgt := 36) hx hb dX9_tryAll_27 (by decide) (fun hc => ?_) (fun hc => ?_)
    · have hm := if_f hc hm
      obtain ⟨z10, hz10, hm⟩ := bd_at hm
      refine L36 v1 x0 F (0 : Int32) t_holds f3 t_count t_fresh z10 hz10 (fun H locs ls hP hD hS hl => ?_) H locs ls hP hD hS (lv_sub hl [0, 1, 2, 3] rfl)
      have ho := Option.some.inj hm
      exact k_vret hx hb hr hlocks hK hP hD hS dX9_tryAll_106 hQ rfl (by rw [← ho])
    · have hm := if_t hc hm
      refine lv_aload_n hx hb dX9_tryAll_30 rfl (lv_at hl 2 rfl) ?_
      refine lv_iload_n hx hb dX9_tryAll_31 rfl (lv_at hl 3 rfl) ?_
      obtain ⟨z11, hz11, hm⟩ := bd_at hm
      refine k_callV (As := [.int x0]) (rest := []) (wr := [(t_partCount_a, .inl (cI, 16, .inl t_partCount)), (t_partSort_a, .inl (cI, 96, .inl t_partSort)), (t_variableCount_a, .inl (cI, 16, .inl t_variableCount))]) (ws1 := [(t, .inr (9, [.int t_thrown, .ref t_tape_a, .int t_taped, .int t_fault, .int t_faultPlace, .int t_at, .int t_rules, .ref t_firstPart_a, .ref t_partMany_a, .ref t_rulePlace_a, .int t_parts, .ref t_sort_a, .ref t_predicate_a, .ref t_firstTerm_a, .ref t_termMany_a, .ref t_partPlace_a, .int t_terms, .ref t_term_a, .ref t_depends_a, .int t_ruleCount, .ref t_partCount_a, .ref t_partSort_a, .ref t_partPredicate_a, .ref t_partTerms_a, .ref t_termOf_a, .ref t_variableCount_a, .ref t_kind_a, .ref t_width_a, .ref t_stratum_a, .ref t_holds_a, .ref t_held_a, .ref t_kept_a, .int t_changes, .int t_staged, .ref t_stage_a, .int t_logged, .int t_safe, .ref t_logs_a, .ref t_value_a, .int t_wanted, .int z11.2.1, .int z11.2.2])), (t_partCount_a, .inl (cI, 16, .inl t_partCount)), (t_partSort_a, .inl (cI, 96, .inl t_partSort)), (t_partPredicate_a, .inl (cI, 96, .inl t_partPredicate)), (t_partTerms_a, .inl (cI, 96, .inl t_partTerms)), (t_termOf_a, .inl (cI, 288, .inl t_termOf)), (t_variableCount_a, .inl (cI, 16, .inl t_variableCount)), (t_holds_a, .inl (cZ, 17280, .inl z11.1)), (t_value_a, .inl (cI, 6, .inl f3))]) [0, 3, 4, 5, 7, 8] [1, 2, 6] [3, 0, 1, 4, 5, 6, 2, 7, 8] (K_Model_found l D cB cI cZ cJ t t_tape_a t_firstPart_a t_partMany_a t_rulePlace_a t_sort_a t_predicate_a t_firstTerm_a t_termMany_a t_partPlace_a t_term_a t_depends_a t_partCount_a t_partSort_a t_partPredicate_a t_partTerms_a t_termOf_a t_variableCount_a t_kind_a t_width_a t_stratum_a t_holds_a t_held_a t_kept_a t_stage_a t_logs_a t_value_a t_thrown t_taped t_fault t_faultPlace t_at t_rules t_parts t_terms t_ruleCount t_changes t_staged t_logged t_safe t_wanted t_count t_fresh t_partPredicate t_partTerms t_termOf t_holds f3 x0 F z11 hz11) mf_X9_found km_X9_240 hx hb hml hown hts hK hP hD hS hA hl.1 ⟨Nat.zero_le _, Nat.zero_le _⟩ dX9_tryAll_32 rfl rfl (Nat.le_of_ble_eq_true rfl) ⟨⟨rfl, rfl⟩, Nat.le_of_ble_eq_true rfl, Nat.le_of_ble_eq_true rfl⟩ rfl rfl (by decide) rfl rfl rfl rfl (fun H locs hP hD hS => ?_)
      have hP : va_P D vwCl [(t, .inr (9, [.int t_thrown, .ref t_tape_a, .int t_taped, .int t_fault, .int t_faultPlace, .int t_at, .int t_rules, .ref t_firstPart_a, .ref t_partMany_a, .ref t_rulePlace_a, .int t_parts, .ref t_sort_a, .ref t_predicate_a, .ref t_firstTerm_a, .ref t_termMany_a, .ref t_partPlace_a, .int t_terms, .ref t_term_a, .ref t_depends_a, .int t_ruleCount, .ref t_partCount_a, .ref t_partSort_a, .ref t_partPredicate_a, .ref t_partTerms_a, .ref t_termOf_a, .ref t_variableCount_a, .ref t_kind_a, .ref t_width_a, .ref t_stratum_a, .ref t_holds_a, .ref t_held_a, .ref t_kept_a, .int t_changes, .int t_staged, .ref t_stage_a, .int t_logged, .int t_safe, .ref t_logs_a, .ref t_value_a, .int t_wanted, .int z11.2.1, .int z11.2.2])), (t_partCount_a, .inl (cI, 16, .inl t_partCount)), (t_partSort_a, .inl (cI, 96, .inl t_partSort)), (t_partPredicate_a, .inl (cI, 96, .inl t_partPredicate)), (t_partTerms_a, .inl (cI, 96, .inl t_partTerms)), (t_termOf_a, .inl (cI, 288, .inl t_termOf)), (t_variableCount_a, .inl (cI, 16, .inl t_variableCount)), (t_holds_a, .inl (cZ, 17280, .inl z11.1)), (t_value_a, .inl (cI, 6, .inl f3))] H := hP
      have hD : va_D A [(t, .inr (9, [.int t_thrown, .ref t_tape_a, .int t_taped, .int t_fault, .int t_faultPlace, .int t_at, .int t_rules, .ref t_firstPart_a, .ref t_partMany_a, .ref t_rulePlace_a, .int t_parts, .ref t_sort_a, .ref t_predicate_a, .ref t_firstTerm_a, .ref t_termMany_a, .ref t_partPlace_a, .int t_terms, .ref t_term_a, .ref t_depends_a, .int t_ruleCount, .ref t_partCount_a, .ref t_partSort_a, .ref t_partPredicate_a, .ref t_partTerms_a, .ref t_termOf_a, .ref t_variableCount_a, .ref t_kind_a, .ref t_width_a, .ref t_stratum_a, .ref t_holds_a, .ref t_held_a, .ref t_kept_a, .int t_changes, .int t_staged, .ref t_stage_a, .int t_logged, .int t_safe, .ref t_logs_a, .ref t_value_a, .int t_wanted, .int z11.2.1, .int z11.2.2])), (t_partCount_a, .inl (cI, 16, .inl t_partCount)), (t_partSort_a, .inl (cI, 96, .inl t_partSort)), (t_partPredicate_a, .inl (cI, 96, .inl t_partPredicate)), (t_partTerms_a, .inl (cI, 96, .inl t_partTerms)), (t_termOf_a, .inl (cI, 288, .inl t_termOf)), (t_variableCount_a, .inl (cI, 16, .inl t_variableCount)), (t_holds_a, .inl (cZ, 17280, .inl z11.1)), (t_value_a, .inl (cI, 6, .inl f3))] := hD
      have ho := Option.some.inj hm
      exact k_vret hx hb hr hlocks hK hP hD hS dX9_tryAll_35 hQ rfl (by rw [← ho])
  · have hm := if_t hc hm
    have ho := Option.some.inj hm
    exact k_vret hx hb hr hlocks hK hP hD hS dX9_tryAll_16 hQ rfl (by rw [← ho])
noncomputable def M_Model_derive_L10 (F : Nat) (t_kind : Nat → Int32) (w1 : Int32) : Nat → Int32 → (Nat → Int32) → Option ((Nat → Int32))
  | 0, _, _ => none
  | n + 1, y2, c_t_holds => if (1728 : Int32) ≤ y2 then (some c_t_holds) else (gd_ w1 10 <| if (t_kind w1.toNatClampNeg) = (2 : Int32) then (gd_ (((1728 : Int32) * w1) + y2) 17280 <| lt_ (upd c_t_holds (((1728 : Int32) * w1) + y2).toNatClampNeg (vp_nar .boolean (0 : Int32))) fun f1 => lt_ (y2 + (1 : Int32)) fun v2 => M_Model_derive_L10 F t_kind w1 n v2 f1) else (some c_t_holds))
noncomputable def M_Model_derive_L2 (F : Nat) (t_kind : Nat → Int32) : Nat → Int32 → (Nat → Int32) → Option ((Nat → Int32))
  | 0, _, _ => none
  | n + 1, y1, c_t_holds => if (10 : Int32) ≤ y1 then (some c_t_holds) else (bd_ (M_Model_derive_L10 F t_kind y1 F (0 : Int32) c_t_holds) fun z3 => lt_ (y1 + (1 : Int32)) fun v4 => M_Model_derive_L2 F t_kind n v4 z3)
noncomputable def M_Model_derive_L84 (F : Nat) (t_ruleCount : Int32) (t_partCount : Nat → Int32) (t_partSort : Nat → Int32) (t_partPredicate : Nat → Int32) (t_partTerms : Nat → Int32) (t_termOf : Nat → Int32) (t_variableCount : Nat → Int32) (t_stratum : Nat → Int32) (c_t_wanted : Int32) (w1 : Int32) : Nat → Int32 → (Nat → Int32) → (Nat → Int32) → (Int32) → (Int32) → Option ((Nat → Int32) × (Nat → Int32) × (Int32) × (Int32))
  | 0, _, _, _, _, _ => none
  | n + 1, y2, c_t_holds, c_t_value, c_t_count, c_t_fresh => if t_ruleCount ≤ y2 then (some (c_t_holds, c_t_value, c_t_count, c_t_fresh)) else (gd_ ((6 : Int32) * y2) 96 <| lt_ ((t_partPredicate ((6 : Int32) * y2).toNatClampNeg)) fun v6 => gd_ v6 10 <| if (t_stratum v6.toNatClampNeg) = w1 then (bd_ (M_Model_tryAll F t_partCount t_partSort t_partPredicate t_partTerms t_termOf t_variableCount c_t_holds c_t_value c_t_wanted c_t_count c_t_fresh y2) fun z8 => lt_ (y2 + (1 : Int32)) fun v9 => M_Model_derive_L84 F t_ruleCount t_partCount t_partSort t_partPredicate t_partTerms t_termOf t_variableCount t_stratum c_t_wanted w1 n v9 z8.1 z8.2.1 z8.2.2.1 z8.2.2.2) else (lt_ (y2 + (1 : Int32)) fun v7 => M_Model_derive_L84 F t_ruleCount t_partCount t_partSort t_partPredicate t_partTerms t_termOf t_variableCount t_stratum c_t_wanted w1 n v7 c_t_holds c_t_value c_t_count c_t_fresh))
noncomputable def M_Model_derive_L70 (F : Nat) (t_ruleCount : Int32) (t_partCount : Nat → Int32) (t_partSort : Nat → Int32) (t_partPredicate : Nat → Int32) (t_partTerms : Nat → Int32) (t_termOf : Nat → Int32) (t_variableCount : Nat → Int32) (t_stratum : Nat → Int32) (c_t_wanted : Int32) (w1 : Int32) : Nat → (Nat → Int32) → (Nat → Int32) → (Int32) → (Int32) → Option ((Nat → Int32) × (Nat → Int32) × (Int32) × (Int32))
  | 0, _, _, _, _ => none
  | n + 1, c_t_holds, c_t_value, c_t_count, c_t_fresh => if c_t_fresh = 0 then (some (c_t_holds, c_t_value, c_t_count, c_t_fresh)) else (bd_ (M_Model_derive_L84 F t_ruleCount t_partCount t_partSort t_partPredicate t_partTerms t_termOf t_variableCount t_stratum c_t_wanted w1 F (0 : Int32) c_t_holds c_t_value c_t_count (0 : Int32)) fun z10 => M_Model_derive_L70 F t_ruleCount t_partCount t_partSort t_partPredicate t_partTerms t_termOf t_variableCount t_stratum c_t_wanted w1 n z10.1 z10.2.1 z10.2.2.1 z10.2.2.2)
noncomputable def M_Model_derive_L59 (F : Nat) (t_ruleCount : Int32) (t_partCount : Nat → Int32) (t_partSort : Nat → Int32) (t_partPredicate : Nat → Int32) (t_partTerms : Nat → Int32) (t_termOf : Nat → Int32) (t_variableCount : Nat → Int32) (t_stratum : Nat → Int32) (c_t_wanted : Int32) : Nat → Int32 → (Nat → Int32) → (Nat → Int32) → (Int32) → (Int32) → Option ((Nat → Int32) × (Nat → Int32) × (Int32) × (Int32))
  | 0, _, _, _, _, _ => none
  | n + 1, y1, c_t_holds, c_t_value, c_t_count, c_t_fresh => if (10 : Int32) < y1 then (some (c_t_holds, c_t_value, c_t_count, c_t_fresh)) else (bd_ (M_Model_derive_L70 F t_ruleCount t_partCount t_partSort t_partPredicate t_partTerms t_termOf t_variableCount t_stratum c_t_wanted y1 F c_t_holds c_t_value c_t_count (1 : Int32)) fun z11 => lt_ (y1 + (1 : Int32)) fun v12 => M_Model_derive_L59 F t_ruleCount t_partCount t_partSort t_partPredicate t_partTerms t_termOf t_variableCount t_stratum c_t_wanted n v12 z11.1 z11.2.1 z11.2.2.1 z11.2.2.2)
noncomputable def M_Model_derive (F : Nat) (t_ruleCount : Int32) (t_partCount : Nat → Int32) (t_partSort : Nat → Int32) (t_partPredicate : Nat → Int32) (t_partTerms : Nat → Int32) (t_termOf : Nat → Int32) (t_variableCount : Nat → Int32) (t_kind : Nat → Int32) (t_stratum : Nat → Int32) (t_holds : Nat → Int32) (t_value : Nat → Int32) (t_wanted : Int32) (t_count : Int32) (t_fresh : Int32) : Option ((Nat → Int32) × (Nat → Int32) × (Int32) × (Int32) × (Int32)) := bd_ (M_Model_derive_L2 F t_kind F (0 : Int32) t_holds) fun z5 => bd_ (M_Model_derive_L59 F t_ruleCount t_partCount t_partSort t_partPredicate t_partTerms t_termOf t_variableCount t_stratum (-1 : Int32) F (1 : Int32) z5 t_value t_count t_fresh) fun z13 => some (z13.1, z13.2.1, (-1 : Int32), z13.2.2.1, z13.2.2.2)
set_option maxRecDepth 100000 in
set_option maxHeartbeats 4000000 in
theorem K_Model_derive (l : Launch) (D : va_G) (cB cI cZ cJ : ClassId) (t : Nat) (t_tape_a : Nat) (t_firstPart_a : Nat) (t_partMany_a : Nat) (t_rulePlace_a : Nat) (t_sort_a : Nat) (t_predicate_a : Nat) (t_firstTerm_a : Nat) (t_termMany_a : Nat) (t_partPlace_a : Nat) (t_term_a : Nat) (t_depends_a : Nat) (t_partCount_a : Nat) (t_partSort_a : Nat) (t_partPredicate_a : Nat) (t_partTerms_a : Nat) (t_termOf_a : Nat) (t_variableCount_a : Nat) (t_kind_a : Nat) (t_width_a : Nat) (t_stratum_a : Nat) (t_holds_a : Nat) (t_held_a : Nat) (t_kept_a : Nat) (t_stage_a : Nat) (t_logs_a : Nat) (t_value_a : Nat) (t_thrown : Int32) (t_taped : Int32) (t_fault : Int32) (t_faultPlace : Int32) (t_at : Int32) (t_rules : Int32) (t_parts : Int32) (t_terms : Int32) (t_ruleCount : Int32) (t_changes : Int32) (t_staged : Int32) (t_logged : Int32) (t_safe : Int32) (t_wanted : Int32) (t_count : Int32) (t_fresh : Int32) (t_partCount : Nat → Int32) (t_partSort : Nat → Int32) (t_partPredicate : Nat → Int32) (t_partTerms : Nat → Int32) (t_termOf : Nat → Int32) (t_variableCount : Nat → Int32) (t_kind : Nat → Int32) (t_stratum : Nat → Int32) (t_holds : Nat → Int32) (t_value : Nat → Int32) (F : Nat) (out : (Nat → Int32) × (Nat → Int32) × (Int32) × (Int32) × (Int32)) (hm : M_Model_derive F t_ruleCount t_partCount t_partSort t_partPredicate t_partTerms t_termOf t_variableCount t_kind t_stratum t_holds t_value t_wanted t_count t_fresh = some out) : KC l yX9_derive cX9_derive 3 none { frames := 5, cells := 0, slots := 0, locals := 113 } D (kTy cB cI cZ cJ) [.ref t] [(t, .inr (9, [.int t_thrown, .ref t_tape_a, .int t_taped, .int t_fault, .int t_faultPlace, .int t_at, .int t_rules, .ref t_firstPart_a, .ref t_partMany_a, .ref t_rulePlace_a, .int t_parts, .ref t_sort_a, .ref t_predicate_a, .ref t_firstTerm_a, .ref t_termMany_a, .ref t_partPlace_a, .int t_terms, .ref t_term_a, .ref t_depends_a, .int t_ruleCount, .ref t_partCount_a, .ref t_partSort_a, .ref t_partPredicate_a, .ref t_partTerms_a, .ref t_termOf_a, .ref t_variableCount_a, .ref t_kind_a, .ref t_width_a, .ref t_stratum_a, .ref t_holds_a, .ref t_held_a, .ref t_kept_a, .int t_changes, .int t_staged, .ref t_stage_a, .int t_logged, .int t_safe, .ref t_logs_a, .ref t_value_a, .int t_wanted, .int t_count, .int t_fresh])), (t_partCount_a, .inl (cI, 16, .inl t_partCount)), (t_partSort_a, .inl (cI, 96, .inl t_partSort)), (t_partPredicate_a, .inl (cI, 96, .inl t_partPredicate)), (t_partTerms_a, .inl (cI, 96, .inl t_partTerms)), (t_termOf_a, .inl (cI, 288, .inl t_termOf)), (t_variableCount_a, .inl (cI, 16, .inl t_variableCount)), (t_kind_a, .inl (cI, 10, .inl t_kind)), (t_stratum_a, .inl (cI, 10, .inl t_stratum)), (t_holds_a, .inl (cZ, 17280, .inl t_holds)), (t_value_a, .inl (cI, 6, .inl t_value))] none [(t, .inr (9, [.int t_thrown, .ref t_tape_a, .int t_taped, .int t_fault, .int t_faultPlace, .int t_at, .int t_rules, .ref t_firstPart_a, .ref t_partMany_a, .ref t_rulePlace_a, .int t_parts, .ref t_sort_a, .ref t_predicate_a, .ref t_firstTerm_a, .ref t_termMany_a, .ref t_partPlace_a, .int t_terms, .ref t_term_a, .ref t_depends_a, .int t_ruleCount, .ref t_partCount_a, .ref t_partSort_a, .ref t_partPredicate_a, .ref t_partTerms_a, .ref t_termOf_a, .ref t_variableCount_a, .ref t_kind_a, .ref t_width_a, .ref t_stratum_a, .ref t_holds_a, .ref t_held_a, .ref t_kept_a, .int t_changes, .int t_staged, .ref t_stage_a, .int t_logged, .int t_safe, .ref t_logs_a, .ref t_value_a, .int out.2.2.1, .int out.2.2.2.1, .int out.2.2.2.2])), (t_partCount_a, .inl (cI, 16, .inl t_partCount)), (t_partSort_a, .inl (cI, 96, .inl t_partSort)), (t_partPredicate_a, .inl (cI, 96, .inl t_partPredicate)), (t_partTerms_a, .inl (cI, 96, .inl t_partTerms)), (t_termOf_a, .inl (cI, 288, .inl t_termOf)), (t_variableCount_a, .inl (cI, 16, .inl t_variableCount)), (t_kind_a, .inl (cI, 10, .inl t_kind)), (t_stratum_a, .inl (cI, 10, .inl t_stratum)), (t_holds_a, .inl (cZ, 17280, .inl out.1)), (t_value_a, .inl (cI, 6, .inl out.2.1))] := by
  refine KC.of (by decide +kernel) (Nat.le_of_ble_eq_true rfl) ?_
  intro p e s m below meth c A ls args Q hQ CX hA hK hP hD hl
  obtain ⟨hx, hb, hr, hml, hown, hts, hlocks⟩ := CX
  have hown : s.vm.findClass RX9 = some m.cls := hown
  have hS : va_S A s.heap s.heap [] := va_S.rf
  have hl : lv_has ls 3 [(0, .ref t)] := hl
  have L10 : ∀ (c_t_value : Nat → Int32) (c_t_wanted : Int32) (c_t_count : Int32) (c_t_fresh : Int32) (w1 : Int32) (n : Nat) (y2 : Int32) (c_t_holds : Nat → Int32) (z : ((Nat → Int32))), M_Model_derive_L10 F t_kind w1 n y2 c_t_holds = some z →
      (∀ (H : Heap) (locs : List Loc) (ls : Array Slot), va_P D vwCl [(t, .inr (9, [.int t_thrown, .ref t_tape_a, .int t_taped, .int t_fault, .int t_faultPlace, .int t_at, .int t_rules, .ref t_firstPart_a, .ref t_partMany_a, .ref t_rulePlace_a, .int t_parts, .ref t_sort_a, .ref t_predicate_a, .ref t_firstTerm_a, .ref t_termMany_a, .ref t_partPlace_a, .int t_terms, .ref t_term_a, .ref t_depends_a, .int t_ruleCount, .ref t_partCount_a, .ref t_partSort_a, .ref t_partPredicate_a, .ref t_partTerms_a, .ref t_termOf_a, .ref t_variableCount_a, .ref t_kind_a, .ref t_width_a, .ref t_stratum_a, .ref t_holds_a, .ref t_held_a, .ref t_kept_a, .int t_changes, .int t_staged, .ref t_stage_a, .int t_logged, .int t_safe, .ref t_logs_a, .ref t_value_a, .int c_t_wanted, .int c_t_count, .int c_t_fresh])), (t_partCount_a, .inl (cI, 16, .inl t_partCount)), (t_partSort_a, .inl (cI, 96, .inl t_partSort)), (t_partPredicate_a, .inl (cI, 96, .inl t_partPredicate)), (t_partTerms_a, .inl (cI, 96, .inl t_partTerms)), (t_termOf_a, .inl (cI, 288, .inl t_termOf)), (t_variableCount_a, .inl (cI, 16, .inl t_variableCount)), (t_kind_a, .inl (cI, 10, .inl t_kind)), (t_stratum_a, .inl (cI, 10, .inl t_stratum)), (t_holds_a, .inl (cZ, 17280, .inl z)), (t_value_a, .inl (cI, 6, .inl c_t_value))] H → va_D A [(t, .inr (9, [.int t_thrown, .ref t_tape_a, .int t_taped, .int t_fault, .int t_faultPlace, .int t_at, .int t_rules, .ref t_firstPart_a, .ref t_partMany_a, .ref t_rulePlace_a, .int t_parts, .ref t_sort_a, .ref t_predicate_a, .ref t_firstTerm_a, .ref t_termMany_a, .ref t_partPlace_a, .int t_terms, .ref t_term_a, .ref t_depends_a, .int t_ruleCount, .ref t_partCount_a, .ref t_partSort_a, .ref t_partPredicate_a, .ref t_partTerms_a, .ref t_termOf_a, .ref t_variableCount_a, .ref t_kind_a, .ref t_width_a, .ref t_stratum_a, .ref t_holds_a, .ref t_held_a, .ref t_kept_a, .int t_changes, .int t_staged, .ref t_stage_a, .int t_logged, .int t_safe, .ref t_logs_a, .ref t_value_a, .int c_t_wanted, .int c_t_count, .int c_t_fresh])), (t_partCount_a, .inl (cI, 16, .inl t_partCount)), (t_partSort_a, .inl (cI, 96, .inl t_partSort)), (t_partPredicate_a, .inl (cI, 96, .inl t_partPredicate)), (t_partTerms_a, .inl (cI, 96, .inl t_partTerms)), (t_termOf_a, .inl (cI, 288, .inl t_termOf)), (t_variableCount_a, .inl (cI, 16, .inl t_variableCount)), (t_kind_a, .inl (cI, 10, .inl t_kind)), (t_stratum_a, .inl (cI, 10, .inl t_stratum)), (t_holds_a, .inl (cZ, 17280, .inl z)), (t_value_a, .inl (cI, 6, .inl c_t_value))] → va_S A s.heap H locs → lv_has ls 3 [(1, .int w1), (0, .ref t)] → W p l e { frames := 5, cells := 0, slots := 0, locals := 113 } s m args below meth c H locs 0 0 Q (F0 m 46 ls [])) →
      ∀ (H : Heap) (locs : List Loc) (ls : Array Slot), va_P D vwCl [(t, .inr (9, [.int t_thrown, .ref t_tape_a, .int t_taped, .int t_fault, .int t_faultPlace, .int t_at, .int t_rules, .ref t_firstPart_a, .ref t_partMany_a, .ref t_rulePlace_a, .int t_parts, .ref t_sort_a, .ref t_predicate_a, .ref t_firstTerm_a, .ref t_termMany_a, .ref t_partPlace_a, .int t_terms, .ref t_term_a, .ref t_depends_a, .int t_ruleCount, .ref t_partCount_a, .ref t_partSort_a, .ref t_partPredicate_a, .ref t_partTerms_a, .ref t_termOf_a, .ref t_variableCount_a, .ref t_kind_a, .ref t_width_a, .ref t_stratum_a, .ref t_holds_a, .ref t_held_a, .ref t_kept_a, .int t_changes, .int t_staged, .ref t_stage_a, .int t_logged, .int t_safe, .ref t_logs_a, .ref t_value_a, .int c_t_wanted, .int c_t_count, .int c_t_fresh])), (t_partCount_a, .inl (cI, 16, .inl t_partCount)), (t_partSort_a, .inl (cI, 96, .inl t_partSort)), (t_partPredicate_a, .inl (cI, 96, .inl t_partPredicate)), (t_partTerms_a, .inl (cI, 96, .inl t_partTerms)), (t_termOf_a, .inl (cI, 288, .inl t_termOf)), (t_variableCount_a, .inl (cI, 16, .inl t_variableCount)), (t_kind_a, .inl (cI, 10, .inl t_kind)), (t_stratum_a, .inl (cI, 10, .inl t_stratum)), (t_holds_a, .inl (cZ, 17280, .inl c_t_holds)), (t_value_a, .inl (cI, 6, .inl c_t_value))] H → va_D A [(t, .inr (9, [.int t_thrown, .ref t_tape_a, .int t_taped, .int t_fault, .int t_faultPlace, .int t_at, .int t_rules, .ref t_firstPart_a, .ref t_partMany_a, .ref t_rulePlace_a, .int t_parts, .ref t_sort_a, .ref t_predicate_a, .ref t_firstTerm_a, .ref t_termMany_a, .ref t_partPlace_a, .int t_terms, .ref t_term_a, .ref t_depends_a, .int t_ruleCount, .ref t_partCount_a, .ref t_partSort_a, .ref t_partPredicate_a, .ref t_partTerms_a, .ref t_termOf_a, .ref t_variableCount_a, .ref t_kind_a, .ref t_width_a, .ref t_stratum_a, .ref t_holds_a, .ref t_held_a, .ref t_kept_a, .int t_changes, .int t_staged, .ref t_stage_a, .int t_logged, .int t_safe, .ref t_logs_a, .ref t_value_a, .int c_t_wanted, .int c_t_count, .int c_t_fresh])), (t_partCount_a, .inl (cI, 16, .inl t_partCount)), (t_partSort_a, .inl (cI, 96, .inl t_partSort)), (t_partPredicate_a, .inl (cI, 96, .inl t_partPredicate)), (t_partTerms_a, .inl (cI, 96, .inl t_partTerms)), (t_termOf_a, .inl (cI, 288, .inl t_termOf)), (t_variableCount_a, .inl (cI, 16, .inl t_variableCount)), (t_kind_a, .inl (cI, 10, .inl t_kind)), (t_stratum_a, .inl (cI, 10, .inl t_stratum)), (t_holds_a, .inl (cZ, 17280, .inl c_t_holds)), (t_value_a, .inl (cI, 6, .inl c_t_value))] → va_S A s.heap H locs → lv_has ls 3 [(2, .int y2), (1, .int w1), (0, .ref t)] → W p l e { frames := 5, cells := 0, slots := 0, locals := 113 } s m args below meth c H locs 0 0 Q (F0 m 10 ls []) := by
    intro c_t_value c_t_wanted c_t_count c_t_fresh w1 n
    induction n with
    | zero => intro y2 c_t_holds z hm; unfold M_Model_derive_L10 at hm; cases hm
    | succ n ih =>
      intro y2 c_t_holds z hm hE H locs ls hP hD hS hl
      unfold M_Model_derive_L10 at hm
      refine lv_iload_n hx hb dX9_derive_10 rfl (lv_at hl 0 rfl) ?_
      refine lv_sipush (v := (1728 : Int32)) hx hb dX9_derive_11 (by decide) ?_
      refine lv_icmp_ge (tgt := 46) hx hb dX9_derive_14 (by decide) (fun hc => ?_) (fun hc => ?_)
      · have hm := if_t hc hm
        cases hm
        exact hE H locs ls hP hD hS (lv_sub hl [1, 2] rfl)
      · have hm := if_f hc hm
        refine lv_aload_n hx hb dX9_derive_17 rfl (lv_at hl 2 rfl) ?_
        refine va_get (D := D) (ci := 9) (v := .ref t_kind_a) (C := RX9) (T := TX9) (N := 42) hx hb hts in_X9 hown hK hP 0 rfl rfl 26 (by decide) (hts _ kf_X9_62) (fun _ h9 => h9) rfl dX9_derive_18 ?_
        refine lv_iload_n hx hb dX9_derive_21 rfl (lv_at hl 1 rfl) ?_
        refine va_iald hx hb hK hP 7 1 rfl rfl (gd_in hm) dX9_derive_22 ?_
        have hm := gd_go hm
        refine lv_iconst (v := (2 : Int32)) hx hb dX9_derive_23 (by decide) ?_
        refine lv_icmp_ne (tgt := 46) hx hb dX9_derive_24 (by decide) (fun hc => ?_) (fun hc => ?_)
        · have hm := if_f hc hm
          cases hm
          exact hE H locs ls hP hD hS (lv_sub hl [1, 2] rfl)
        · have hm := if_t hc hm
          refine lv_aload_n hx hb dX9_derive_27 rfl (lv_at hl 2 rfl) ?_
          refine va_get (D := D) (ci := 9) (v := .ref t_holds_a) (C := RX9) (T := TX9) (N := 42) hx hb hts in_X9 hown hK hP 0 rfl rfl 29 (by decide) (hts _ kf_X9_71) (fun _ h9 => h9) rfl dX9_derive_28 ?_
          refine lv_sipush (v := (1728 : Int32)) hx hb dX9_derive_31 (by decide) ?_
          refine lv_iload_n hx hb dX9_derive_34 rfl (lv_at hl 1 rfl) ?_
          refine lv_imul hx hb dX9_derive_35 ?_
          refine lv_iload_n hx hb dX9_derive_36 rfl (lv_at hl 0 rfl) ?_
          refine lv_iadd hx hb dX9_derive_37 ?_
          refine lv_iconst (v := (0 : Int32)) hx hb dX9_derive_38 (by decide) ?_
          refine k_zast hx hb hK hP hD hS 9 2 rfl rfl (gd_in hm) dX9_derive_39 (fun f1 ef1 H locs hP hD hS => ?_)
          have hm := lt_at ef1 (gd_go hm)
          have hP : va_P D vwCl [(t, .inr (9, [.int t_thrown, .ref t_tape_a, .int t_taped, .int t_fault, .int t_faultPlace, .int t_at, .int t_rules, .ref t_firstPart_a, .ref t_partMany_a, .ref t_rulePlace_a, .int t_parts, .ref t_sort_a, .ref t_predicate_a, .ref t_firstTerm_a, .ref t_termMany_a, .ref t_partPlace_a, .int t_terms, .ref t_term_a, .ref t_depends_a, .int t_ruleCount, .ref t_partCount_a, .ref t_partSort_a, .ref t_partPredicate_a, .ref t_partTerms_a, .ref t_termOf_a, .ref t_variableCount_a, .ref t_kind_a, .ref t_width_a, .ref t_stratum_a, .ref t_holds_a, .ref t_held_a, .ref t_kept_a, .int t_changes, .int t_staged, .ref t_stage_a, .int t_logged, .int t_safe, .ref t_logs_a, .ref t_value_a, .int c_t_wanted, .int c_t_count, .int c_t_fresh])), (t_partCount_a, .inl (cI, 16, .inl t_partCount)), (t_partSort_a, .inl (cI, 96, .inl t_partSort)), (t_partPredicate_a, .inl (cI, 96, .inl t_partPredicate)), (t_partTerms_a, .inl (cI, 96, .inl t_partTerms)), (t_termOf_a, .inl (cI, 288, .inl t_termOf)), (t_variableCount_a, .inl (cI, 16, .inl t_variableCount)), (t_kind_a, .inl (cI, 10, .inl t_kind)), (t_stratum_a, .inl (cI, 10, .inl t_stratum)), (t_holds_a, .inl (cZ, 17280, .inl f1)), (t_value_a, .inl (cI, 6, .inl c_t_value))] H := hP
          have hD : va_D A [(t, .inr (9, [.int t_thrown, .ref t_tape_a, .int t_taped, .int t_fault, .int t_faultPlace, .int t_at, .int t_rules, .ref t_firstPart_a, .ref t_partMany_a, .ref t_rulePlace_a, .int t_parts, .ref t_sort_a, .ref t_predicate_a, .ref t_firstTerm_a, .ref t_termMany_a, .ref t_partPlace_a, .int t_terms, .ref t_term_a, .ref t_depends_a, .int t_ruleCount, .ref t_partCount_a, .ref t_partSort_a, .ref t_partPredicate_a, .ref t_partTerms_a, .ref t_termOf_a, .ref t_variableCount_a, .ref t_kind_a, .ref t_width_a, .ref t_stratum_a, .ref t_holds_a, .ref t_held_a, .ref t_kept_a, .int t_changes, .int t_staged, .ref t_stage_a, .int t_logged, .int t_safe, .ref t_logs_a, .ref t_value_a, .int c_t_wanted, .int c_t_count, .int c_t_fresh])), (t_partCount_a, .inl (cI, 16, .inl t_partCount)), (t_partSort_a, .inl (cI, 96, .inl t_partSort)), (t_partPredicate_a, .inl (cI, 96, .inl t_partPredicate)), (t_partTerms_a, .inl (cI, 96, .inl t_partTerms)), (t_termOf_a, .inl (cI, 288, .inl t_termOf)), (t_variableCount_a, .inl (cI, 16, .inl t_variableCount)), (t_kind_a, .inl (cI, 10, .inl t_kind)), (t_stratum_a, .inl (cI, 10, .inl t_stratum)), (t_holds_a, .inl (cZ, 17280, .inl f1)), (t_value_a, .inl (cI, 6, .inl c_t_value))] := hD
          obtain ⟨v2, ev2⟩ : ∃ y : Int32, y = y2 + (1 : Int32) := ⟨_, rfl⟩
          have hm := lt_at ev2 hm
          refine lv_iinc (v := v2) (lv' := [(2, .int v2), (1, .int w1), (0, .ref t)]) hx hb dX9_derive_40 hl (k := 0) rfl (by rw [ev2]; rfl) (by decide) rfl (fun ls hl => ?_)
          refine lv_goto (tgt := 10) hx hb dX9_derive_43 (by decide) ?_
          exact ih v2 f1 z hm hE H locs ls hP hD hS (lv_sub hl [0, 1, 2] rfl)
  have L2 : ∀ (c_t_value : Nat → Int32) (c_t_wanted : Int32) (c_t_count : Int32) (c_t_fresh : Int32) (n : Nat) (y1 : Int32) (c_t_holds : Nat → Int32) (z : ((Nat → Int32))), M_Model_derive_L2 F t_kind n y1 c_t_holds = some z →
      (∀ (H : Heap) (locs : List Loc) (ls : Array Slot), va_P D vwCl [(t, .inr (9, [.int t_thrown, .ref t_tape_a, .int t_taped, .int t_fault, .int t_faultPlace, .int t_at, .int t_rules, .ref t_firstPart_a, .ref t_partMany_a, .ref t_rulePlace_a, .int t_parts, .ref t_sort_a, .ref t_predicate_a, .ref t_firstTerm_a, .ref t_termMany_a, .ref t_partPlace_a, .int t_terms, .ref t_term_a, .ref t_depends_a, .int t_ruleCount, .ref t_partCount_a, .ref t_partSort_a, .ref t_partPredicate_a, .ref t_partTerms_a, .ref t_termOf_a, .ref t_variableCount_a, .ref t_kind_a, .ref t_width_a, .ref t_stratum_a, .ref t_holds_a, .ref t_held_a, .ref t_kept_a, .int t_changes, .int t_staged, .ref t_stage_a, .int t_logged, .int t_safe, .ref t_logs_a, .ref t_value_a, .int c_t_wanted, .int c_t_count, .int c_t_fresh])), (t_partCount_a, .inl (cI, 16, .inl t_partCount)), (t_partSort_a, .inl (cI, 96, .inl t_partSort)), (t_partPredicate_a, .inl (cI, 96, .inl t_partPredicate)), (t_partTerms_a, .inl (cI, 96, .inl t_partTerms)), (t_termOf_a, .inl (cI, 288, .inl t_termOf)), (t_variableCount_a, .inl (cI, 16, .inl t_variableCount)), (t_kind_a, .inl (cI, 10, .inl t_kind)), (t_stratum_a, .inl (cI, 10, .inl t_stratum)), (t_holds_a, .inl (cZ, 17280, .inl z)), (t_value_a, .inl (cI, 6, .inl c_t_value))] H → va_D A [(t, .inr (9, [.int t_thrown, .ref t_tape_a, .int t_taped, .int t_fault, .int t_faultPlace, .int t_at, .int t_rules, .ref t_firstPart_a, .ref t_partMany_a, .ref t_rulePlace_a, .int t_parts, .ref t_sort_a, .ref t_predicate_a, .ref t_firstTerm_a, .ref t_termMany_a, .ref t_partPlace_a, .int t_terms, .ref t_term_a, .ref t_depends_a, .int t_ruleCount, .ref t_partCount_a, .ref t_partSort_a, .ref t_partPredicate_a, .ref t_partTerms_a, .ref t_termOf_a, .ref t_variableCount_a, .ref t_kind_a, .ref t_width_a, .ref t_stratum_a, .ref t_holds_a, .ref t_held_a, .ref t_kept_a, .int t_changes, .int t_staged, .ref t_stage_a, .int t_logged, .int t_safe, .ref t_logs_a, .ref t_value_a, .int c_t_wanted, .int c_t_count, .int c_t_fresh])), (t_partCount_a, .inl (cI, 16, .inl t_partCount)), (t_partSort_a, .inl (cI, 96, .inl t_partSort)), (t_partPredicate_a, .inl (cI, 96, .inl t_partPredicate)), (t_partTerms_a, .inl (cI, 96, .inl t_partTerms)), (t_termOf_a, .inl (cI, 288, .inl t_termOf)), (t_variableCount_a, .inl (cI, 16, .inl t_variableCount)), (t_kind_a, .inl (cI, 10, .inl t_kind)), (t_stratum_a, .inl (cI, 10, .inl t_stratum)), (t_holds_a, .inl (cZ, 17280, .inl z)), (t_value_a, .inl (cI, 6, .inl c_t_value))] → va_S A s.heap H locs → lv_has ls 3 [(0, .ref t)] → W p l e { frames := 5, cells := 0, slots := 0, locals := 113 } s m args below meth c H locs 0 0 Q (F0 m 52 ls [])) →
      ∀ (H : Heap) (locs : List Loc) (ls : Array Slot), va_P D vwCl [(t, .inr (9, [.int t_thrown, .ref t_tape_a, .int t_taped, .int t_fault, .int t_faultPlace, .int t_at, .int t_rules, .ref t_firstPart_a, .ref t_partMany_a, .ref t_rulePlace_a, .int t_parts, .ref t_sort_a, .ref t_predicate_a, .ref t_firstTerm_a, .ref t_termMany_a, .ref t_partPlace_a, .int t_terms, .ref t_term_a, .ref t_depends_a, .int t_ruleCount, .ref t_partCount_a, .ref t_partSort_a, .ref t_partPredicate_a, .ref t_partTerms_a, .ref t_termOf_a, .ref t_variableCount_a, .ref t_kind_a, .ref t_width_a, .ref t_stratum_a, .ref t_holds_a, .ref t_held_a, .ref t_kept_a, .int t_changes, .int t_staged, .ref t_stage_a, .int t_logged, .int t_safe, .ref t_logs_a, .ref t_value_a, .int c_t_wanted, .int c_t_count, .int c_t_fresh])), (t_partCount_a, .inl (cI, 16, .inl t_partCount)), (t_partSort_a, .inl (cI, 96, .inl t_partSort)), (t_partPredicate_a, .inl (cI, 96, .inl t_partPredicate)), (t_partTerms_a, .inl (cI, 96, .inl t_partTerms)), (t_termOf_a, .inl (cI, 288, .inl t_termOf)), (t_variableCount_a, .inl (cI, 16, .inl t_variableCount)), (t_kind_a, .inl (cI, 10, .inl t_kind)), (t_stratum_a, .inl (cI, 10, .inl t_stratum)), (t_holds_a, .inl (cZ, 17280, .inl c_t_holds)), (t_value_a, .inl (cI, 6, .inl c_t_value))] H → va_D A [(t, .inr (9, [.int t_thrown, .ref t_tape_a, .int t_taped, .int t_fault, .int t_faultPlace, .int t_at, .int t_rules, .ref t_firstPart_a, .ref t_partMany_a, .ref t_rulePlace_a, .int t_parts, .ref t_sort_a, .ref t_predicate_a, .ref t_firstTerm_a, .ref t_termMany_a, .ref t_partPlace_a, .int t_terms, .ref t_term_a, .ref t_depends_a, .int t_ruleCount, .ref t_partCount_a, .ref t_partSort_a, .ref t_partPredicate_a, .ref t_partTerms_a, .ref t_termOf_a, .ref t_variableCount_a, .ref t_kind_a, .ref t_width_a, .ref t_stratum_a, .ref t_holds_a, .ref t_held_a, .ref t_kept_a, .int t_changes, .int t_staged, .ref t_stage_a, .int t_logged, .int t_safe, .ref t_logs_a, .ref t_value_a, .int c_t_wanted, .int c_t_count, .int c_t_fresh])), (t_partCount_a, .inl (cI, 16, .inl t_partCount)), (t_partSort_a, .inl (cI, 96, .inl t_partSort)), (t_partPredicate_a, .inl (cI, 96, .inl t_partPredicate)), (t_partTerms_a, .inl (cI, 96, .inl t_partTerms)), (t_termOf_a, .inl (cI, 288, .inl t_termOf)), (t_variableCount_a, .inl (cI, 16, .inl t_variableCount)), (t_kind_a, .inl (cI, 10, .inl t_kind)), (t_stratum_a, .inl (cI, 10, .inl t_stratum)), (t_holds_a, .inl (cZ, 17280, .inl c_t_holds)), (t_value_a, .inl (cI, 6, .inl c_t_value))] → va_S A s.heap H locs → lv_has ls 3 [(1, .int y1), (0, .ref t)] → W p l e { frames := 5, cells := 0, slots := 0, locals := 113 } s m args below meth c H locs 0 0 Q (F0 m 2 ls []) := by
    intro c_t_value c_t_wanted c_t_count c_t_fresh n
    induction n with
    | zero => intro y1 c_t_holds z hm; unfold M_Model_derive_L2 at hm; cases hm
    | succ n ih =>
      intro y1 c_t_holds z hm hE H locs ls hP hD hS hl
      unfold M_Model_derive_L2 at hm
      refine lv_iload_n hx hb dX9_derive_2 rfl (lv_at hl 0 rfl) ?_
      refine lv_bipush (v := (10 : Int32)) hx hb dX9_derive_3 (by decide) ?_
      refine lv_icmp_ge (tgt := 52) hx hb dX9_derive_5 (by decide) (fun hc => ?_) (fun hc => ?_)
      · have hm := if_t hc hm
        cases hm
        exact hE H locs ls hP hD hS (lv_sub hl [1] rfl)
      · have hm := if_f hc hm
        refine lv_iconst (v := (0 : Int32)) hx hb dX9_derive_8 (by decide) ?_
        refine lv_istore_n (lv' := [(2, .int (0 : Int32)), (1, .int y1), (0, .ref t)]) hx hb dX9_derive_9 rfl hl (by decide) rfl (fun ls hl => ?_)
        obtain ⟨z3, hz3, hm⟩ := bd_at hm
        refine L10 c_t_value c_t_wanted c_t_count c_t_fresh y1 F (0 : Int32) c_t_holds z3 hz3 (fun H locs ls hP hD hS hl => ?_) H locs ls hP hD hS (lv_sub hl [0, 1, 2] rfl)
        obtain ⟨v4, ev4⟩ : ∃ y : Int32, y = y1 + (1 : Int32) := ⟨_, rfl⟩
        have hm := lt_at ev4 hm
        refine lv_iinc (v := v4) (lv' := [(1, .int v4), (0, .ref t)]) hx hb dX9_derive_46 hl (k := 0) rfl (by rw [ev4]; rfl) (by decide) rfl (fun ls hl => ?_)
        refine lv_goto (tgt := 2) hx hb dX9_derive_49 (by decide) ?_
        exact ih v4 z3 z hm hE H locs ls hP hD hS (lv_sub hl [0, 1] rfl)
  have L84 : ∀ (c_t_wanted : Int32) (w1 : Int32) (n : Nat) (y2 : Int32) (c_t_holds : Nat → Int32) (c_t_value : Nat → Int32) (c_t_count : Int32) (c_t_fresh : Int32) (z : ((Nat → Int32) × (Nat → Int32) × (Int32) × (Int32))), M_Model_derive_L84 F t_ruleCount t_partCount t_partSort t_partPredicate t_partTerms t_termOf t_variableCount t_stratum c_t_wanted w1 n y2 c_t_holds c_t_value c_t_count c_t_fresh = some z →
      (∀ (H : Heap) (locs : List Loc) (ls : Array Slot), va_P D vwCl [(t, .inr (9, [.int t_thrown, .ref t_tape_a, .int t_taped, .int t_fault, .int t_faultPlace, .int t_at, .int t_rules, .ref t_firstPart_a, .ref t_partMany_a, .ref t_rulePlace_a, .int t_parts, .ref t_sort_a, .ref t_predicate_a, .ref t_firstTerm_a, .ref t_termMany_a, .ref t_partPlace_a, .int t_terms, .ref t_term_a, .ref t_depends_a, .int t_ruleCount, .ref t_partCount_a, .ref t_partSort_a, .ref t_partPredicate_a, .ref t_partTerms_a, .ref t_termOf_a, .ref t_variableCount_a, .ref t_kind_a, .ref t_width_a, .ref t_stratum_a, .ref t_holds_a, .ref t_held_a, .ref t_kept_a, .int t_changes, .int t_staged, .ref t_stage_a, .int t_logged, .int t_safe, .ref t_logs_a, .ref t_value_a, .int c_t_wanted, .int z.2.2.1, .int z.2.2.2])), (t_partCount_a, .inl (cI, 16, .inl t_partCount)), (t_partSort_a, .inl (cI, 96, .inl t_partSort)), (t_partPredicate_a, .inl (cI, 96, .inl t_partPredicate)), (t_partTerms_a, .inl (cI, 96, .inl t_partTerms)), (t_termOf_a, .inl (cI, 288, .inl t_termOf)), (t_variableCount_a, .inl (cI, 16, .inl t_variableCount)), (t_kind_a, .inl (cI, 10, .inl t_kind)), (t_stratum_a, .inl (cI, 10, .inl t_stratum)), (t_holds_a, .inl (cZ, 17280, .inl z.1)), (t_value_a, .inl (cI, 6, .inl z.2.1))] H → va_D A [(t, .inr (9, [.int t_thrown, .ref t_tape_a, .int t_taped, .int t_fault, .int t_faultPlace, .int t_at, .int t_rules, .ref t_firstPart_a, .ref t_partMany_a, .ref t_rulePlace_a, .int t_parts, .ref t_sort_a, .ref t_predicate_a, .ref t_firstTerm_a, .ref t_termMany_a, .ref t_partPlace_a, .int t_terms, .ref t_term_a, .ref t_depends_a, .int t_ruleCount, .ref t_partCount_a, .ref t_partSort_a, .ref t_partPredicate_a, .ref t_partTerms_a, .ref t_termOf_a, .ref t_variableCount_a, .ref t_kind_a, .ref t_width_a, .ref t_stratum_a, .ref t_holds_a, .ref t_held_a, .ref t_kept_a, .int t_changes, .int t_staged, .ref t_stage_a, .int t_logged, .int t_safe, .ref t_logs_a, .ref t_value_a, .int c_t_wanted, .int z.2.2.1, .int z.2.2.2])), (t_partCount_a, .inl (cI, 16, .inl t_partCount)), (t_partSort_a, .inl (cI, 96, .inl t_partSort)), (t_partPredicate_a, .inl (cI, 96, .inl t_partPredicate)), (t_partTerms_a, .inl (cI, 96, .inl t_partTerms)), (t_termOf_a, .inl (cI, 288, .inl t_termOf)), (t_variableCount_a, .inl (cI, 16, .inl t_variableCount)), (t_kind_a, .inl (cI, 10, .inl t_kind)), (t_stratum_a, .inl (cI, 10, .inl t_stratum)), (t_holds_a, .inl (cZ, 17280, .inl z.1)), (t_value_a, .inl (cI, 6, .inl z.2.1))] → va_S A s.heap H locs → lv_has ls 3 [(1, .int w1), (0, .ref t)] → W p l e { frames := 5, cells := 0, slots := 0, locals := 113 } s m args below meth c H locs 0 0 Q (F0 m 121 ls [])) →
      ∀ (H : Heap) (locs : List Loc) (ls : Array Slot), va_P D vwCl [(t, .inr (9, [.int t_thrown, .ref t_tape_a, .int t_taped, .int t_fault, .int t_faultPlace, .int t_at, .int t_rules, .ref t_firstPart_a, .ref t_partMany_a, .ref t_rulePlace_a, .int t_parts, .ref t_sort_a, .ref t_predicate_a, .ref t_firstTerm_a, .ref t_termMany_a, .ref t_partPlace_a, .int t_terms, .ref t_term_a, .ref t_depends_a, .int t_ruleCount, .ref t_partCount_a, .ref t_partSort_a, .ref t_partPredicate_a, .ref t_partTerms_a, .ref t_termOf_a, .ref t_variableCount_a, .ref t_kind_a, .ref t_width_a, .ref t_stratum_a, .ref t_holds_a, .ref t_held_a, .ref t_kept_a, .int t_changes, .int t_staged, .ref t_stage_a, .int t_logged, .int t_safe, .ref t_logs_a, .ref t_value_a, .int c_t_wanted, .int c_t_count, .int c_t_fresh])), (t_partCount_a, .inl (cI, 16, .inl t_partCount)), (t_partSort_a, .inl (cI, 96, .inl t_partSort)), (t_partPredicate_a, .inl (cI, 96, .inl t_partPredicate)), (t_partTerms_a, .inl (cI, 96, .inl t_partTerms)), (t_termOf_a, .inl (cI, 288, .inl t_termOf)), (t_variableCount_a, .inl (cI, 16, .inl t_variableCount)), (t_kind_a, .inl (cI, 10, .inl t_kind)), (t_stratum_a, .inl (cI, 10, .inl t_stratum)), (t_holds_a, .inl (cZ, 17280, .inl c_t_holds)), (t_value_a, .inl (cI, 6, .inl c_t_value))] H → va_D A [(t, .inr (9, [.int t_thrown, .ref t_tape_a, .int t_taped, .int t_fault, .int t_faultPlace, .int t_at, .int t_rules, .ref t_firstPart_a, .ref t_partMany_a, .ref t_rulePlace_a, .int t_parts, .ref t_sort_a, .ref t_predicate_a, .ref t_firstTerm_a, .ref t_termMany_a, .ref t_partPlace_a, .int t_terms, .ref t_term_a, .ref t_depends_a, .int t_ruleCount, .ref t_partCount_a, .ref t_partSort_a, .ref t_partPredicate_a, .ref t_partTerms_a, .ref t_termOf_a, .ref t_variableCount_a, .ref t_kind_a, .ref t_width_a, .ref t_stratum_a, .ref t_holds_a, .ref t_held_a, .ref t_kept_a, .int t_changes, .int t_staged, .ref t_stage_a, .int t_logged, .int t_safe, .ref t_logs_a, .ref t_value_a, .int c_t_wanted, .int c_t_count, .int c_t_fresh])), (t_partCount_a, .inl (cI, 16, .inl t_partCount)), (t_partSort_a, .inl (cI, 96, .inl t_partSort)), (t_partPredicate_a, .inl (cI, 96, .inl t_partPredicate)), (t_partTerms_a, .inl (cI, 96, .inl t_partTerms)), (t_termOf_a, .inl (cI, 288, .inl t_termOf)), (t_variableCount_a, .inl (cI, 16, .inl t_variableCount)), (t_kind_a, .inl (cI, 10, .inl t_kind)), (t_stratum_a, .inl (cI, 10, .inl t_stratum)), (t_holds_a, .inl (cZ, 17280, .inl c_t_holds)), (t_value_a, .inl (cI, 6, .inl c_t_value))] → va_S A s.heap H locs → lv_has ls 3 [(2, .int y2), (1, .int w1), (0, .ref t)] → W p l e { frames := 5, cells := 0, slots := 0, locals := 113 } s m args below meth c H locs 0 0 Q (F0 m 84 ls []) := by
    intro c_t_wanted w1 n
    induction n with
    | zero => intro y2 c_t_holds c_t_value c_t_count c_t_fresh z hm; unfold M_Model_derive_L84 at hm; cases hm
    | succ n ih =>
      intro y2 c_t_holds c_t_value c_t_count c_t_fresh z hm hE H locs ls hP hD hS hl
      unfold M_Model_derive_L84 at hm
      refine lv_iload_n hx hb dX9_derive_84 rfl (lv_at hl 0 rfl) ?_
      refine lv_aload_n hx hb dX9_derive_85 rfl (lv_at hl 2 rfl) ?_
      refine va_get (D := D) (ci := 9) (v := .int t_ruleCount) (C := RX9) (T := TX9) (N := 42) hx hb hts in_X9 hown hK hP 0 rfl rfl 19 (by decide) (hts _ kf_X9_209) (fun _ h9 => h9) rfl dX9_derive_86 ?_
      refine lv_icmp_ge (tgt := 121) hx hb dX9_derive_89 (by decide) (fun hc => ?_) (fun hc => ?_)
      · have hm := if_t hc hm
        cases hm
        exact hE H locs ls hP hD hS (lv_sub hl [1, 2] rfl)
      · have hm := if_f hc hm
        refine lv_aload_n hx hb dX9_derive_92 rfl (lv_at hl 2 rfl) ?_
        refine va_get (D := D) (ci := 9) (v := .ref t_stratum_a) (C := RX9) (T := TX9) (N := 42) hx hb hts in_X9 hown hK hP 0 rfl rfl 28 (by decide) (hts _ kf_X9_68) (fun _ h9 => h9) rfl dX9_derive_93 ?_
        refine lv_aload_n hx hb dX9_derive_96 rfl (lv_at hl 2 rfl) ?_
        refine va_get (D := D) (ci := 9) (v := .ref t_partPredicate_a) (C := RX9) (T := TX9) (N := 42) hx hb hts in_X9 hown hK hP 0 rfl rfl 22 (by decide) (hts _ kf_X9_50) (fun _ h9 => h9) rfl dX9_derive_97 ?_
        refine lv_bipush (v := (6 : Int32)) hx hb dX9_derive_100 (by decide) ?_
        refine lv_iload_n hx hb dX9_derive_102 rfl (lv_at hl 0 rfl) ?_
        refine lv_imul hx hb dX9_derive_103 ?_
        refine va_iald hx hb hK hP 3 1 rfl rfl (gd_in hm) dX9_derive_104 ?_
        have hm := gd_go hm
        refine lv_topi (fun v6 ev6 => ?_)
        have hm := lt_at ev6 hm
        refine va_iald hx hb hK hP 8 1 rfl rfl (gd_in hm) dX9_derive_105 ?_
        have hm := gd_go hm
        refine lv_iload_n hx hb dX9_derive_106 rfl (lv_at hl 1 rfl) ?_
        refine lv_icmp_ne (tgt := 115) hx hb dX9_derive_107 (by decide) (fun hc => ?_) (fun hc => ?_)
        · have hm := if_f hc hm
          obtain ⟨v7, ev7⟩ : ∃ y : Int32, y = y2 + (1 : Int32) := ⟨_, rfl⟩
          have hm := lt_at ev7 hm
          refine lv_iinc (v := v7) (lv' := [(2, .int v7), (1, .int w1), (0, .ref t)]) hx hb dX9_derive_115 hl (k := 0) rfl (by rw [ev7]; rfl) (by decide) rfl (fun ls hl => ?_)
          refine lv_goto (tgt := 84) hx hb dX9_derive_118 (by decide) ?_
          exact ih v7 c_t_holds c_t_value c_t_count c_t_fresh z hm hE H locs ls hP hD hS (lv_sub hl [0, 1, 2] rfl)
        · have hm := if_t hc hm
          refine lv_aload_n hx hb dX9_derive_110 rfl (lv_at hl 2 rfl) ?_
          refine lv_iload_n hx hb dX9_derive_111 rfl (lv_at hl 0 rfl) ?_
          obtain ⟨z8, hz8, hm⟩ := bd_at hm
          refine k_callV (As := [.int y2]) (rest := []) (wr := [(t_kind_a, .inl (cI, 10, .inl t_kind)), (t_stratum_a, .inl (cI, 10, .inl t_stratum))]) (ws1 := [(t, .inr (9, [.int t_thrown, .ref t_tape_a, .int t_taped, .int t_fault, .int t_faultPlace, .int t_at, .int t_rules, .ref t_firstPart_a, .ref t_partMany_a, .ref t_rulePlace_a, .int t_parts, .ref t_sort_a, .ref t_predicate_a, .ref t_firstTerm_a, .ref t_termMany_a, .ref t_partPlace_a, .int t_terms, .ref t_term_a, .ref t_depends_a, .int t_ruleCount, .ref t_partCount_a, .ref t_partSort_a, .ref t_partPredicate_a, .ref t_partTerms_a, .ref t_termOf_a, .ref t_variableCount_a, .ref t_kind_a, .ref t_width_a, .ref t_stratum_a, .ref t_holds_a, .ref t_held_a, .ref t_kept_a, .int t_changes, .int t_staged, .ref t_stage_a, .int t_logged, .int t_safe, .ref t_logs_a, .ref t_value_a, .int c_t_wanted, .int z8.2.2.1, .int z8.2.2.2])), (t_partCount_a, .inl (cI, 16, .inl t_partCount)), (t_partSort_a, .inl (cI, 96, .inl t_partSort)), (t_partPredicate_a, .inl (cI, 96, .inl t_partPredicate)), (t_partTerms_a, .inl (cI, 96, .inl t_partTerms)), (t_termOf_a, .inl (cI, 288, .inl t_termOf)), (t_variableCount_a, .inl (cI, 16, .inl t_variableCount)), (t_kind_a, .inl (cI, 10, .inl t_kind)), (t_stratum_a, .inl (cI, 10, .inl t_stratum)), (t_holds_a, .inl (cZ, 17280, .inl z8.1)), (t_value_a, .inl (cI, 6, .inl z8.2.1))]) [0, 1, 2, 3, 4, 5, 6, 9, 10] [7, 8] [2, 3, 4, 5, 6, 7, 8, 0, 1, 9, 10] (K_Model_tryAll l D cB cI cZ cJ t t_tape_a t_firstPart_a t_partMany_a t_rulePlace_a t_sort_a t_predicate_a t_firstTerm_a t_termMany_a t_partPlace_a t_term_a t_depends_a t_partCount_a t_partSort_a t_partPredicate_a t_partTerms_a t_termOf_a t_variableCount_a t_kind_a t_width_a t_stratum_a t_holds_a t_held_a t_kept_a t_stage_a t_logs_a t_value_a t_thrown t_taped t_fault t_faultPlace t_at t_rules t_parts t_terms t_ruleCount t_changes t_staged t_logged t_safe c_t_wanted c_t_count c_t_fresh t_partCount t_partSort t_partPredicate t_partTerms t_termOf t_variableCount c_t_holds c_t_value y2 F z8 hz8) mf_X9_tryAll km_X9_244 hx hb hml hown hts hK hP hD hS hA hl.1 ⟨Nat.zero_le _, Nat.zero_le _⟩ dX9_derive_112 rfl rfl (Nat.le_of_ble_eq_true rfl) ⟨⟨rfl, rfl⟩, Nat.le_of_ble_eq_true rfl, Nat.le_of_ble_eq_true rfl⟩ rfl rfl (by decide) rfl rfl rfl rfl (fun H locs hP hD hS => ?_)
          have hP : va_P D vwCl [(t, .inr (9, [.int t_thrown, .ref t_tape_a, .int t_taped, .int t_fault, .int t_faultPlace, .int t_at, .int t_rules, .ref t_firstPart_a, .ref t_partMany_a, .ref t_rulePlace_a, .int t_parts, .ref t_sort_a, .ref t_predicate_a, .ref t_firstTerm_a, .ref t_termMany_a, .ref t_partPlace_a, .int t_terms, .ref t_term_a, .ref t_depends_a, .int t_ruleCount, .ref t_partCount_a, .ref t_partSort_a, .ref t_partPredicate_a, .ref t_partTerms_a, .ref t_termOf_a, .ref t_variableCount_a, .ref t_kind_a, .ref t_width_a, .ref t_stratum_a, .ref t_holds_a, .ref t_held_a, .ref t_kept_a, .int t_changes, .int t_staged, .ref t_stage_a, .int t_logged, .int t_safe, .ref t_logs_a, .ref t_value_a, .int c_t_wanted, .int z8.2.2.1, .int z8.2.2.2])), (t_partCount_a, .inl (cI, 16, .inl t_partCount)), (t_partSort_a, .inl (cI, 96, .inl t_partSort)), (t_partPredicate_a, .inl (cI, 96, .inl t_partPredicate)), (t_partTerms_a, .inl (cI, 96, .inl t_partTerms)), (t_termOf_a, .inl (cI, 288, .inl t_termOf)), (t_variableCount_a, .inl (cI, 16, .inl t_variableCount)), (t_kind_a, .inl (cI, 10, .inl t_kind)), (t_stratum_a, .inl (cI, 10, .inl t_stratum)), (t_holds_a, .inl (cZ, 17280, .inl z8.1)), (t_value_a, .inl (cI, 6, .inl z8.2.1))] H := hP
          have hD : va_D A [(t, .inr (9, [.int t_thrown, .ref t_tape_a, .int t_taped, .int t_fault, .int t_faultPlace, .int t_at, .int t_rules, .ref t_firstPart_a, .ref t_partMany_a, .ref t_rulePlace_a, .int t_parts, .ref t_sort_a, .ref t_predicate_a, .ref t_firstTerm_a, .ref t_termMany_a, .ref t_partPlace_a, .int t_terms, .ref t_term_a, .ref t_depends_a, .int t_ruleCount, .ref t_partCount_a, .ref t_partSort_a, .ref t_partPredicate_a, .ref t_partTerms_a, .ref t_termOf_a, .ref t_variableCount_a, .ref t_kind_a, .ref t_width_a, .ref t_stratum_a, .ref t_holds_a, .ref t_held_a, .ref t_kept_a, .int t_changes, .int t_staged, .ref t_stage_a, .int t_logged, .int t_safe, .ref t_logs_a, .ref t_value_a, .int c_t_wanted, .int z8.2.2.1, .int z8.2.2.2])), (t_partCount_a, .inl (cI, 16, .inl t_partCount)), (t_partSort_a, .inl (cI, 96, .inl t_partSort)), (t_partPredicate_a, .inl (cI, 96, .inl t_partPredicate)), (t_partTerms_a, .inl (cI, 96, .inl t_partTerms)), (t_termOf_a, .inl (cI, 288, .inl t_termOf)), (t_variableCount_a, .inl (cI, 16, .inl t_variableCount)), (t_kind_a, .inl (cI, 10, .inl t_kind)), (t_stratum_a, .inl (cI, 10, .inl t_stratum)), (t_holds_a, .inl (cZ, 17280, .inl z8.1)), (t_value_a, .inl (cI, 6, .inl z8.2.1))] := hD
          obtain ⟨v9, ev9⟩ : ∃ y : Int32, y = y2 + (1 : Int32) := ⟨_, rfl⟩
          have hm := lt_at ev9 hm
          refine lv_iinc (v := v9) (lv' := [(2, .int v9), (1, .int w1), (0, .ref t)]) hx hb dX9_derive_115 hl (k := 0) rfl (by rw [ev9]; rfl) (by decide) rfl (fun ls hl => ?_)
          refine lv_goto (tgt := 84) hx hb dX9_derive_118 (by decide) ?_
          exact ih v9 z8.1 z8.2.1 z8.2.2.1 z8.2.2.2 z hm hE H locs ls hP hD hS (lv_sub hl [0, 1, 2] rfl)
  have L70 : ∀ (c_t_wanted : Int32) (w1 : Int32) (n : Nat) (c_t_holds : Nat → Int32) (c_t_value : Nat → Int32) (c_t_count : Int32) (c_t_fresh : Int32) (z : ((Nat → Int32) × (Nat → Int32) × (Int32) × (Int32))), M_Model_derive_L70 F t_ruleCount t_partCount t_partSort t_partPredicate t_partTerms t_termOf t_variableCount t_stratum c_t_wanted w1 n c_t_holds c_t_value c_t_count c_t_fresh = some z →
      (∀ (H : Heap) (locs : List Loc) (ls : Array Slot), va_P D vwCl [(t, .inr (9, [.int t_thrown, .ref t_tape_a, .int t_taped, .int t_fault, .int t_faultPlace, .int t_at, .int t_rules, .ref t_firstPart_a, .ref t_partMany_a, .ref t_rulePlace_a, .int t_parts, .ref t_sort_a, .ref t_predicate_a, .ref t_firstTerm_a, .ref t_termMany_a, .ref t_partPlace_a, .int t_terms, .ref t_term_a, .ref t_depends_a, .int t_ruleCount, .ref t_partCount_a, .ref t_partSort_a, .ref t_partPredicate_a, .ref t_partTerms_a, .ref t_termOf_a, .ref t_variableCount_a, .ref t_kind_a, .ref t_width_a, .ref t_stratum_a, .ref t_holds_a, .ref t_held_a, .ref t_kept_a, .int t_changes, .int t_staged, .ref t_stage_a, .int t_logged, .int t_safe, .ref t_logs_a, .ref t_value_a, .int c_t_wanted, .int z.2.2.1, .int z.2.2.2])), (t_partCount_a, .inl (cI, 16, .inl t_partCount)), (t_partSort_a, .inl (cI, 96, .inl t_partSort)), (t_partPredicate_a, .inl (cI, 96, .inl t_partPredicate)), (t_partTerms_a, .inl (cI, 96, .inl t_partTerms)), (t_termOf_a, .inl (cI, 288, .inl t_termOf)), (t_variableCount_a, .inl (cI, 16, .inl t_variableCount)), (t_kind_a, .inl (cI, 10, .inl t_kind)), (t_stratum_a, .inl (cI, 10, .inl t_stratum)), (t_holds_a, .inl (cZ, 17280, .inl z.1)), (t_value_a, .inl (cI, 6, .inl z.2.1))] H → va_D A [(t, .inr (9, [.int t_thrown, .ref t_tape_a, .int t_taped, .int t_fault, .int t_faultPlace, .int t_at, .int t_rules, .ref t_firstPart_a, .ref t_partMany_a, .ref t_rulePlace_a, .int t_parts, .ref t_sort_a, .ref t_predicate_a, .ref t_firstTerm_a, .ref t_termMany_a, .ref t_partPlace_a, .int t_terms, .ref t_term_a, .ref t_depends_a, .int t_ruleCount, .ref t_partCount_a, .ref t_partSort_a, .ref t_partPredicate_a, .ref t_partTerms_a, .ref t_termOf_a, .ref t_variableCount_a, .ref t_kind_a, .ref t_width_a, .ref t_stratum_a, .ref t_holds_a, .ref t_held_a, .ref t_kept_a, .int t_changes, .int t_staged, .ref t_stage_a, .int t_logged, .int t_safe, .ref t_logs_a, .ref t_value_a, .int c_t_wanted, .int z.2.2.1, .int z.2.2.2])), (t_partCount_a, .inl (cI, 16, .inl t_partCount)), (t_partSort_a, .inl (cI, 96, .inl t_partSort)), (t_partPredicate_a, .inl (cI, 96, .inl t_partPredicate)), (t_partTerms_a, .inl (cI, 96, .inl t_partTerms)), (t_termOf_a, .inl (cI, 288, .inl t_termOf)), (t_variableCount_a, .inl (cI, 16, .inl t_variableCount)), (t_kind_a, .inl (cI, 10, .inl t_kind)), (t_stratum_a, .inl (cI, 10, .inl t_stratum)), (t_holds_a, .inl (cZ, 17280, .inl z.1)), (t_value_a, .inl (cI, 6, .inl z.2.1))] → va_S A s.heap H locs → lv_has ls 3 [(1, .int w1), (0, .ref t)] → W p l e { frames := 5, cells := 0, slots := 0, locals := 113 } s m args below meth c H locs 0 0 Q (F0 m 124 ls [])) →
      ∀ (H : Heap) (locs : List Loc) (ls : Array Slot), va_P D vwCl [(t, .inr (9, [.int t_thrown, .ref t_tape_a, .int t_taped, .int t_fault, .int t_faultPlace, .int t_at, .int t_rules, .ref t_firstPart_a, .ref t_partMany_a, .ref t_rulePlace_a, .int t_parts, .ref t_sort_a, .ref t_predicate_a, .ref t_firstTerm_a, .ref t_termMany_a, .ref t_partPlace_a, .int t_terms, .ref t_term_a, .ref t_depends_a, .int t_ruleCount, .ref t_partCount_a, .ref t_partSort_a, .ref t_partPredicate_a, .ref t_partTerms_a, .ref t_termOf_a, .ref t_variableCount_a, .ref t_kind_a, .ref t_width_a, .ref t_stratum_a, .ref t_holds_a, .ref t_held_a, .ref t_kept_a, .int t_changes, .int t_staged, .ref t_stage_a, .int t_logged, .int t_safe, .ref t_logs_a, .ref t_value_a, .int c_t_wanted, .int c_t_count, .int c_t_fresh])), (t_partCount_a, .inl (cI, 16, .inl t_partCount)), (t_partSort_a, .inl (cI, 96, .inl t_partSort)), (t_partPredicate_a, .inl (cI, 96, .inl t_partPredicate)), (t_partTerms_a, .inl (cI, 96, .inl t_partTerms)), (t_termOf_a, .inl (cI, 288, .inl t_termOf)), (t_variableCount_a, .inl (cI, 16, .inl t_variableCount)), (t_kind_a, .inl (cI, 10, .inl t_kind)), (t_stratum_a, .inl (cI, 10, .inl t_stratum)), (t_holds_a, .inl (cZ, 17280, .inl c_t_holds)), (t_value_a, .inl (cI, 6, .inl c_t_value))] H → va_D A [(t, .inr (9, [.int t_thrown, .ref t_tape_a, .int t_taped, .int t_fault, .int t_faultPlace, .int t_at, .int t_rules, .ref t_firstPart_a, .ref t_partMany_a, .ref t_rulePlace_a, .int t_parts, .ref t_sort_a, .ref t_predicate_a, .ref t_firstTerm_a, .ref t_termMany_a, .ref t_partPlace_a, .int t_terms, .ref t_term_a, .ref t_depends_a, .int t_ruleCount, .ref t_partCount_a, .ref t_partSort_a, .ref t_partPredicate_a, .ref t_partTerms_a, .ref t_termOf_a, .ref t_variableCount_a, .ref t_kind_a, .ref t_width_a, .ref t_stratum_a, .ref t_holds_a, .ref t_held_a, .ref t_kept_a, .int t_changes, .int t_staged, .ref t_stage_a, .int t_logged, .int t_safe, .ref t_logs_a, .ref t_value_a, .int c_t_wanted, .int c_t_count, .int c_t_fresh])), (t_partCount_a, .inl (cI, 16, .inl t_partCount)), (t_partSort_a, .inl (cI, 96, .inl t_partSort)), (t_partPredicate_a, .inl (cI, 96, .inl t_partPredicate)), (t_partTerms_a, .inl (cI, 96, .inl t_partTerms)), (t_termOf_a, .inl (cI, 288, .inl t_termOf)), (t_variableCount_a, .inl (cI, 16, .inl t_variableCount)), (t_kind_a, .inl (cI, 10, .inl t_kind)), (t_stratum_a, .inl (cI, 10, .inl t_stratum)), (t_holds_a, .inl (cZ, 17280, .inl c_t_holds)), (t_value_a, .inl (cI, 6, .inl c_t_value))] → va_S A s.heap H locs → lv_has ls 3 [(1, .int w1), (0, .ref t)] → W p l e { frames := 5, cells := 0, slots := 0, locals := 113 } s m args below meth c H locs 0 0 Q (F0 m 70 ls []) := by
    intro c_t_wanted w1 n
    induction n with
    | zero => intro c_t_holds c_t_value c_t_count c_t_fresh z hm; unfold M_Model_derive_L70 at hm; cases hm
    | succ n ih =>
      intro c_t_holds c_t_value c_t_count c_t_fresh z hm hE H locs ls hP hD hS hl
      unfold M_Model_derive_L70 at hm
      refine lv_aload_n hx hb dX9_derive_70 rfl (lv_at hl 1 rfl) ?_
      refine va_get (D := D) (ci := 9) (v := .int c_t_fresh) (C := RX9) (T := TX9) (N := 42) hx hb hts in_X9 hown hK hP 0 rfl rfl 41 (by decide) (hts _ kf_X9_231) (fun _ h9 => h9) rfl dX9_derive_71 ?_
      refine lv_if_eq (tgt := 124) hx hb dX9_derive_74 (by decide) (fun hc => ?_) (fun hc => ?_)
      · have hm := if_t hc hm
        cases hm
        exact hE H locs ls hP hD hS (lv_sub hl [0, 1] rfl)
      · have hm := if_f hc hm
        refine lv_aload_n hx hb dX9_derive_77 rfl (lv_at hl 1 rfl) ?_
        refine lv_iconst (v := (0 : Int32)) hx hb dX9_derive_78 (by decide) ?_
        refine va_put (D := D) (ci := 9) (v := .int (0 : Int32)) (ty := .boolean) (C := RX9) (T := TX9) (N := 42) hx hb hts in_X9 tyX9 tyX9_ok nmX9 hown hK hP hD hS 0 rfl rfl 41 (by decide) (hts _ kf_X9_231) (fun _ h9 => h9) rfl (by decide +kernel) (by decide +kernel) (by decide +kernel) (Nat.le_of_ble_eq_true rfl) dX9_derive_79 (fun H locs hP hD hS => ?_)
        have hP : va_P D vwCl [(t, .inr (9, [.int t_thrown, .ref t_tape_a, .int t_taped, .int t_fault, .int t_faultPlace, .int t_at, .int t_rules, .ref t_firstPart_a, .ref t_partMany_a, .ref t_rulePlace_a, .int t_parts, .ref t_sort_a, .ref t_predicate_a, .ref t_firstTerm_a, .ref t_termMany_a, .ref t_partPlace_a, .int t_terms, .ref t_term_a, .ref t_depends_a, .int t_ruleCount, .ref t_partCount_a, .ref t_partSort_a, .ref t_partPredicate_a, .ref t_partTerms_a, .ref t_termOf_a, .ref t_variableCount_a, .ref t_kind_a, .ref t_width_a, .ref t_stratum_a, .ref t_holds_a, .ref t_held_a, .ref t_kept_a, .int t_changes, .int t_staged, .ref t_stage_a, .int t_logged, .int t_safe, .ref t_logs_a, .ref t_value_a, .int c_t_wanted, .int c_t_count, .int (0 : Int32)])), (t_partCount_a, .inl (cI, 16, .inl t_partCount)), (t_partSort_a, .inl (cI, 96, .inl t_partSort)), (t_partPredicate_a, .inl (cI, 96, .inl t_partPredicate)), (t_partTerms_a, .inl (cI, 96, .inl t_partTerms)), (t_termOf_a, .inl (cI, 288, .inl t_termOf)), (t_variableCount_a, .inl (cI, 16, .inl t_variableCount)), (t_kind_a, .inl (cI, 10, .inl t_kind)), (t_stratum_a, .inl (cI, 10, .inl t_stratum)), (t_holds_a, .inl (cZ, 17280, .inl c_t_holds)), (t_value_a, .inl (cI, 6, .inl c_t_value))] H := hP
        have hD : va_D A [(t, .inr (9, [.int t_thrown, .ref t_tape_a, .int t_taped, .int t_fault, .int t_faultPlace, .int t_at, .int t_rules, .ref t_firstPart_a, .ref t_partMany_a, .ref t_rulePlace_a, .int t_parts, .ref t_sort_a, .ref t_predicate_a, .ref t_firstTerm_a, .ref t_termMany_a, .ref t_partPlace_a, .int t_terms, .ref t_term_a, .ref t_depends_a, .int t_ruleCount, .ref t_partCount_a, .ref t_partSort_a, .ref t_partPredicate_a, .ref t_partTerms_a, .ref t_termOf_a, .ref t_variableCount_a, .ref t_kind_a, .ref t_width_a, .ref t_stratum_a, .ref t_holds_a, .ref t_held_a, .ref t_kept_a, .int t_changes, .int t_staged, .ref t_stage_a, .int t_logged, .int t_safe, .ref t_logs_a, .ref t_value_a, .int c_t_wanted, .int c_t_count, .int (0 : Int32)])), (t_partCount_a, .inl (cI, 16, .inl t_partCount)), (t_partSort_a, .inl (cI, 96, .inl t_partSort)), (t_partPredicate_a, .inl (cI, 96, .inl t_partPredicate)), (t_partTerms_a, .inl (cI, 96, .inl t_partTerms)), (t_termOf_a, .inl (cI, 288, .inl t_termOf)), (t_variableCount_a, .inl (cI, 16, .inl t_variableCount)), (t_kind_a, .inl (cI, 10, .inl t_kind)), (t_stratum_a, .inl (cI, 10, .inl t_stratum)), (t_holds_a, .inl (cZ, 17280, .inl c_t_holds)), (t_value_a, .inl (cI, 6, .inl c_t_value))] := hD
        refine lv_iconst (v := (0 : Int32)) hx hb dX9_derive_82 (by decide) ?_
        refine lv_istore_n (lv' := [(2, .int (0 : Int32)), (1, .int w1), (0, .ref t)]) hx hb dX9_derive_83 rfl hl (by decide) rfl (fun ls hl => ?_)
        obtain ⟨z10, hz10, hm⟩ := bd_at hm
        refine L84 c_t_wanted w1 F (0 : Int32) c_t_holds c_t_value c_t_count (0 : Int32) z10 hz10 (fun H locs ls hP hD hS hl => ?_) H locs ls hP hD hS (lv_sub hl [0, 1, 2] rfl)
        refine lv_goto (tgt := 70) hx hb dX9_derive_121 (by decide) ?_
        exact ih z10.1 z10.2.1 z10.2.2.1 z10.2.2.2 z hm hE H locs ls hP hD hS (lv_sub hl [0, 1] rfl)
  have L59 : ∀ (c_t_wanted : Int32) (n : Nat) (y1 : Int32) (c_t_holds : Nat → Int32) (c_t_value : Nat → Int32) (c_t_count : Int32) (c_t_fresh : Int32) (z : ((Nat → Int32) × (Nat → Int32) × (Int32) × (Int32))), M_Model_derive_L59 F t_ruleCount t_partCount t_partSort t_partPredicate t_partTerms t_termOf t_variableCount t_stratum c_t_wanted n y1 c_t_holds c_t_value c_t_count c_t_fresh = some z →
      (∀ (H : Heap) (locs : List Loc) (ls : Array Slot), va_P D vwCl [(t, .inr (9, [.int t_thrown, .ref t_tape_a, .int t_taped, .int t_fault, .int t_faultPlace, .int t_at, .int t_rules, .ref t_firstPart_a, .ref t_partMany_a, .ref t_rulePlace_a, .int t_parts, .ref t_sort_a, .ref t_predicate_a, .ref t_firstTerm_a, .ref t_termMany_a, .ref t_partPlace_a, .int t_terms, .ref t_term_a, .ref t_depends_a, .int t_ruleCount, .ref t_partCount_a, .ref t_partSort_a, .ref t_partPredicate_a, .ref t_partTerms_a, .ref t_termOf_a, .ref t_variableCount_a, .ref t_kind_a, .ref t_width_a, .ref t_stratum_a, .ref t_holds_a, .ref t_held_a, .ref t_kept_a, .int t_changes, .int t_staged, .ref t_stage_a, .int t_logged, .int t_safe, .ref t_logs_a, .ref t_value_a, .int c_t_wanted, .int z.2.2.1, .int z.2.2.2])), (t_partCount_a, .inl (cI, 16, .inl t_partCount)), (t_partSort_a, .inl (cI, 96, .inl t_partSort)), (t_partPredicate_a, .inl (cI, 96, .inl t_partPredicate)), (t_partTerms_a, .inl (cI, 96, .inl t_partTerms)), (t_termOf_a, .inl (cI, 288, .inl t_termOf)), (t_variableCount_a, .inl (cI, 16, .inl t_variableCount)), (t_kind_a, .inl (cI, 10, .inl t_kind)), (t_stratum_a, .inl (cI, 10, .inl t_stratum)), (t_holds_a, .inl (cZ, 17280, .inl z.1)), (t_value_a, .inl (cI, 6, .inl z.2.1))] H → va_D A [(t, .inr (9, [.int t_thrown, .ref t_tape_a, .int t_taped, .int t_fault, .int t_faultPlace, .int t_at, .int t_rules, .ref t_firstPart_a, .ref t_partMany_a, .ref t_rulePlace_a, .int t_parts, .ref t_sort_a, .ref t_predicate_a, .ref t_firstTerm_a, .ref t_termMany_a, .ref t_partPlace_a, .int t_terms, .ref t_term_a, .ref t_depends_a, .int t_ruleCount, .ref t_partCount_a, .ref t_partSort_a, .ref t_partPredicate_a, .ref t_partTerms_a, .ref t_termOf_a, .ref t_variableCount_a, .ref t_kind_a, .ref t_width_a, .ref t_stratum_a, .ref t_holds_a, .ref t_held_a, .ref t_kept_a, .int t_changes, .int t_staged, .ref t_stage_a, .int t_logged, .int t_safe, .ref t_logs_a, .ref t_value_a, .int c_t_wanted, .int z.2.2.1, .int z.2.2.2])), (t_partCount_a, .inl (cI, 16, .inl t_partCount)), (t_partSort_a, .inl (cI, 96, .inl t_partSort)), (t_partPredicate_a, .inl (cI, 96, .inl t_partPredicate)), (t_partTerms_a, .inl (cI, 96, .inl t_partTerms)), (t_termOf_a, .inl (cI, 288, .inl t_termOf)), (t_variableCount_a, .inl (cI, 16, .inl t_variableCount)), (t_kind_a, .inl (cI, 10, .inl t_kind)), (t_stratum_a, .inl (cI, 10, .inl t_stratum)), (t_holds_a, .inl (cZ, 17280, .inl z.1)), (t_value_a, .inl (cI, 6, .inl z.2.1))] → va_S A s.heap H locs → lv_has ls 3 [] → W p l e { frames := 5, cells := 0, slots := 0, locals := 113 } s m args below meth c H locs 0 0 Q (F0 m 130 ls [])) →
      ∀ (H : Heap) (locs : List Loc) (ls : Array Slot), va_P D vwCl [(t, .inr (9, [.int t_thrown, .ref t_tape_a, .int t_taped, .int t_fault, .int t_faultPlace, .int t_at, .int t_rules, .ref t_firstPart_a, .ref t_partMany_a, .ref t_rulePlace_a, .int t_parts, .ref t_sort_a, .ref t_predicate_a, .ref t_firstTerm_a, .ref t_termMany_a, .ref t_partPlace_a, .int t_terms, .ref t_term_a, .ref t_depends_a, .int t_ruleCount, .ref t_partCount_a, .ref t_partSort_a, .ref t_partPredicate_a, .ref t_partTerms_a, .ref t_termOf_a, .ref t_variableCount_a, .ref t_kind_a, .ref t_width_a, .ref t_stratum_a, .ref t_holds_a, .ref t_held_a, .ref t_kept_a, .int t_changes, .int t_staged, .ref t_stage_a, .int t_logged, .int t_safe, .ref t_logs_a, .ref t_value_a, .int c_t_wanted, .int c_t_count, .int c_t_fresh])), (t_partCount_a, .inl (cI, 16, .inl t_partCount)), (t_partSort_a, .inl (cI, 96, .inl t_partSort)), (t_partPredicate_a, .inl (cI, 96, .inl t_partPredicate)), (t_partTerms_a, .inl (cI, 96, .inl t_partTerms)), (t_termOf_a, .inl (cI, 288, .inl t_termOf)), (t_variableCount_a, .inl (cI, 16, .inl t_variableCount)), (t_kind_a, .inl (cI, 10, .inl t_kind)), (t_stratum_a, .inl (cI, 10, .inl t_stratum)), (t_holds_a, .inl (cZ, 17280, .inl c_t_holds)), (t_value_a, .inl (cI, 6, .inl c_t_value))] H → va_D A [(t, .inr (9, [.int t_thrown, .ref t_tape_a, .int t_taped, .int t_fault, .int t_faultPlace, .int t_at, .int t_rules, .ref t_firstPart_a, .ref t_partMany_a, .ref t_rulePlace_a, .int t_parts, .ref t_sort_a, .ref t_predicate_a, .ref t_firstTerm_a, .ref t_termMany_a, .ref t_partPlace_a, .int t_terms, .ref t_term_a, .ref t_depends_a, .int t_ruleCount, .ref t_partCount_a, .ref t_partSort_a, .ref t_partPredicate_a, .ref t_partTerms_a, .ref t_termOf_a, .ref t_variableCount_a, .ref t_kind_a, .ref t_width_a, .ref t_stratum_a, .ref t_holds_a, .ref t_held_a, .ref t_kept_a, .int t_changes, .int t_staged, .ref t_stage_a, .int t_logged, .int t_safe, .ref t_logs_a, .ref t_value_a, .int c_t_wanted, .int c_t_count, .int c_t_fresh])), (t_partCount_a, .inl (cI, 16, .inl t_partCount)), (t_partSort_a, .inl (cI, 96, .inl t_partSort)), (t_partPredicate_a, .inl (cI, 96, .inl t_partPredicate)), (t_partTerms_a, .inl (cI, 96, .inl t_partTerms)), (t_termOf_a, .inl (cI, 288, .inl t_termOf)), (t_variableCount_a, .inl (cI, 16, .inl t_variableCount)), (t_kind_a, .inl (cI, 10, .inl t_kind)), (t_stratum_a, .inl (cI, 10, .inl t_stratum)), (t_holds_a, .inl (cZ, 17280, .inl c_t_holds)), (t_value_a, .inl (cI, 6, .inl c_t_value))] → va_S A s.heap H locs → lv_has ls 3 [(1, .int y1), (0, .ref t)] → W p l e { frames := 5, cells := 0, slots := 0, locals := 113 } s m args below meth c H locs 0 0 Q (F0 m 59 ls []) := by
    intro c_t_wanted n
    induction n with
    | zero => intro y1 c_t_holds c_t_value c_t_count c_t_fresh z hm; unfold M_Model_derive_L59 at hm; cases hm
    | succ n ih =>
      intro y1 c_t_holds c_t_value c_t_count c_t_fresh z hm hE H locs ls hP hD hS hl
      unfold M_Model_derive_L59 at hm
      refine lv_iload_n hx hb dX9_derive_59 rfl (lv_at hl 0 rfl) ?_
      refine lv_bipush (v := (10 : Int32)) hx hb dX9_derive_60 (by decide) ?_
      refine lv_icmp_gt (tgt := 130) hx hb dX9_derive_62 (by decide) (fun hc => ?_) (fun hc => ?_)
      · have hm := if_t hc hm
        cases hm
        exact hE H locs ls hP hD hS (lv_sub hl [] rfl)
      · have hm := if_f hc hm
        refine lv_aload_n hx hb dX9_derive_65 rfl (lv_at hl 1 rfl) ?_
        refine lv_iconst (v := (1 : Int32)) hx hb dX9_derive_66 (by decide) ?_
        refine va_put (D := D) (ci := 9) (v := .int (1 : Int32)) (ty := .boolean) (C := RX9) (T := TX9) (N := 42) hx hb hts in_X9 tyX9 tyX9_ok nmX9 hown hK hP hD hS 0 rfl rfl 41 (by decide) (hts _ kf_X9_231) (fun _ h9 => h9) rfl (by decide +kernel) (by decide +kernel) (by decide +kernel) (Nat.le_of_ble_eq_true rfl) dX9_derive_67 (fun H locs hP hD hS => ?_)
        have hP : va_P D vwCl [(t, .inr (9, [.int t_thrown, .ref t_tape_a, .int t_taped, .int t_fault, .int t_faultPlace, .int t_at, .int t_rules, .ref t_firstPart_a, .ref t_partMany_a, .ref t_rulePlace_a, .int t_parts, .ref t_sort_a, .ref t_predicate_a, .ref t_firstTerm_a, .ref t_termMany_a, .ref t_partPlace_a, .int t_terms, .ref t_term_a, .ref t_depends_a, .int t_ruleCount, .ref t_partCount_a, .ref t_partSort_a, .ref t_partPredicate_a, .ref t_partTerms_a, .ref t_termOf_a, .ref t_variableCount_a, .ref t_kind_a, .ref t_width_a, .ref t_stratum_a, .ref t_holds_a, .ref t_held_a, .ref t_kept_a, .int t_changes, .int t_staged, .ref t_stage_a, .int t_logged, .int t_safe, .ref t_logs_a, .ref t_value_a, .int c_t_wanted, .int c_t_count, .int (1 : Int32)])), (t_partCount_a, .inl (cI, 16, .inl t_partCount)), (t_partSort_a, .inl (cI, 96, .inl t_partSort)), (t_partPredicate_a, .inl (cI, 96, .inl t_partPredicate)), (t_partTerms_a, .inl (cI, 96, .inl t_partTerms)), (t_termOf_a, .inl (cI, 288, .inl t_termOf)), (t_variableCount_a, .inl (cI, 16, .inl t_variableCount)), (t_kind_a, .inl (cI, 10, .inl t_kind)), (t_stratum_a, .inl (cI, 10, .inl t_stratum)), (t_holds_a, .inl (cZ, 17280, .inl c_t_holds)), (t_value_a, .inl (cI, 6, .inl c_t_value))] H := hP
        have hD : va_D A [(t, .inr (9, [.int t_thrown, .ref t_tape_a, .int t_taped, .int t_fault, .int t_faultPlace, .int t_at, .int t_rules, .ref t_firstPart_a, .ref t_partMany_a, .ref t_rulePlace_a, .int t_parts, .ref t_sort_a, .ref t_predicate_a, .ref t_firstTerm_a, .ref t_termMany_a, .ref t_partPlace_a, .int t_terms, .ref t_term_a, .ref t_depends_a, .int t_ruleCount, .ref t_partCount_a, .ref t_partSort_a, .ref t_partPredicate_a, .ref t_partTerms_a, .ref t_termOf_a, .ref t_variableCount_a, .ref t_kind_a, .ref t_width_a, .ref t_stratum_a, .ref t_holds_a, .ref t_held_a, .ref t_kept_a, .int t_changes, .int t_staged, .ref t_stage_a, .int t_logged, .int t_safe, .ref t_logs_a, .ref t_value_a, .int c_t_wanted, .int c_t_count, .int (1 : Int32)])), (t_partCount_a, .inl (cI, 16, .inl t_partCount)), (t_partSort_a, .inl (cI, 96, .inl t_partSort)), (t_partPredicate_a, .inl (cI, 96, .inl t_partPredicate)), (t_partTerms_a, .inl (cI, 96, .inl t_partTerms)), (t_termOf_a, .inl (cI, 288, .inl t_termOf)), (t_variableCount_a, .inl (cI, 16, .inl t_variableCount)), (t_kind_a, .inl (cI, 10, .inl t_kind)), (t_stratum_a, .inl (cI, 10, .inl t_stratum)), (t_holds_a, .inl (cZ, 17280, .inl c_t_holds)), (t_value_a, .inl (cI, 6, .inl c_t_value))] := hD
        obtain ⟨z11, hz11, hm⟩ := bd_at hm
        refine L70 c_t_wanted y1 F c_t_holds c_t_value c_t_count (1 : Int32) z11 hz11 (fun H locs ls hP hD hS hl => ?_) H locs ls hP hD hS (lv_sub hl [0, 1] rfl)
        obtain ⟨v12, ev12⟩ : ∃ y : Int32, y = y1 + (1 : Int32) := ⟨_, rfl⟩
        have hm := lt_at ev12 hm
        refine lv_iinc (v := v12) (lv' := [(1, .int v12), (0, .ref t)]) hx hb dX9_derive_124 hl (k := 0) rfl (by rw [ev12]; rfl) (by decide) rfl (fun ls hl => ?_)
        refine lv_goto (tgt := 59) hx hb dX9_derive_127 (by decide) ?_
        exact ih v12 z11.1 z11.2.1 z11.2.2.1 z11.2.2.2 z hm hE H locs ls hP hD hS (lv_sub hl [0, 1] rfl)
  unfold M_Model_derive at hm
  obtain ⟨H, eH⟩ : ∃ H, H = s.heap := ⟨_, rfl⟩
  obtain ⟨locs, el⟩ : ∃ x : List Loc, x = [] := ⟨_, rfl⟩
  have hP : va_P D vwCl [(t, .inr (9, [.int t_thrown, .ref t_tape_a, .int t_taped, .int t_fault, .int t_faultPlace, .int t_at, .int t_rules, .ref t_firstPart_a, .ref t_partMany_a, .ref t_rulePlace_a, .int t_parts, .ref t_sort_a, .ref t_predicate_a, .ref t_firstTerm_a, .ref t_termMany_a, .ref t_partPlace_a, .int t_terms, .ref t_term_a, .ref t_depends_a, .int t_ruleCount, .ref t_partCount_a, .ref t_partSort_a, .ref t_partPredicate_a, .ref t_partTerms_a, .ref t_termOf_a, .ref t_variableCount_a, .ref t_kind_a, .ref t_width_a, .ref t_stratum_a, .ref t_holds_a, .ref t_held_a, .ref t_kept_a, .int t_changes, .int t_staged, .ref t_stage_a, .int t_logged, .int t_safe, .ref t_logs_a, .ref t_value_a, .int t_wanted, .int t_count, .int t_fresh])), (t_partCount_a, .inl (cI, 16, .inl t_partCount)), (t_partSort_a, .inl (cI, 96, .inl t_partSort)), (t_partPredicate_a, .inl (cI, 96, .inl t_partPredicate)), (t_partTerms_a, .inl (cI, 96, .inl t_partTerms)), (t_termOf_a, .inl (cI, 288, .inl t_termOf)), (t_variableCount_a, .inl (cI, 16, .inl t_variableCount)), (t_kind_a, .inl (cI, 10, .inl t_kind)), (t_stratum_a, .inl (cI, 10, .inl t_stratum)), (t_holds_a, .inl (cZ, 17280, .inl t_holds)), (t_value_a, .inl (cI, 6, .inl t_value))] H := eH ▸ hP
  have hS : va_S A s.heap H locs := by rw [eH, el]; exact hS
  suffices hW : W p l e { frames := 5, cells := 0, slots := 0, locals := 113 } s m args below meth c H locs 0 0 Q (F0 m 0 ls []) by rw [eH, el] at hW; exact hW
  clear eH el
  refine lv_iconst (v := (0 : Int32)) hx hb dX9_derive_0 (by decide) ?_
  refine lv_istore_n (lv' := [(1, .int (0 : Int32)), (0, .ref t)]) hx hb dX9_derive_1 rfl hl (by decide) rfl (fun ls hl => ?_)
  obtain ⟨z5, hz5, hm⟩ := bd_at hm
  refine L2 t_value t_wanted t_count t_fresh F (0 : Int32) t_holds z5 hz5 (fun H locs ls hP hD hS hl => ?_) H locs ls hP hD hS (lv_sub hl [0, 1] rfl)
  refine lv_aload_n hx hb dX9_derive_52 rfl (lv_at hl 0 rfl) ?_
  refine lv_iconst (v := (-1 : Int32)) hx hb dX9_derive_53 (by decide) ?_
  refine va_put (D := D) (ci := 9) (v := .int (-1 : Int32)) (ty := .int) (C := RX9) (T := TX9) (N := 42) hx hb hts in_X9 tyX9 tyX9_ok nmX9 hown hK hP hD hS 0 rfl rfl 39 (by decide) (hts _ kf_X9_228) (fun _ h9 => h9) rfl (by decide +kernel) rfl rfl (Nat.le_of_ble_eq_true rfl) dX9_derive_54 (fun H locs hP hD hS => ?_)
  have hP : va_P D vwCl [(t, .inr (9, [.int t_thrown, .ref t_tape_a, .int t_taped, .int t_fault, .int t_faultPlace, .int t_at, .int t_rules, .ref t_firstPart_a, .ref t_partMany_a, .ref t_rulePlace_a, .int t_parts, .ref t_sort_a, .ref t_predicate_a, .ref t_firstTerm_a, .ref t_termMany_a, .ref t_partPlace_a, .int t_terms, .ref t_term_a, .ref t_depends_a, .int t_ruleCount, .ref t_partCount_a, .ref t_partSort_a, .ref t_partPredicate_a, .ref t_partTerms_a, .ref t_termOf_a, .ref t_variableCount_a, .ref t_kind_a, .ref t_width_a, .ref t_stratum_a, .ref t_holds_a, .ref t_held_a, .ref t_kept_a, .int t_changes, .int t_staged, .ref t_stage_a, .int t_logged, .int t_safe, .ref t_logs_a, .ref t_value_a, .int (-1 : Int32), .int t_count, .int t_fresh])), (t_partCount_a, .inl (cI, 16, .inl t_partCount)), (t_partSort_a, .inl (cI, 96, .inl t_partSort)), (t_partPredicate_a, .inl (cI, 96, .inl t_partPredicate)), (t_partTerms_a, .inl (cI, 96, .inl t_partTerms)), (t_termOf_a, .inl (cI, 288, .inl t_termOf)), (t_variableCount_a, .inl (cI, 16, .inl t_variableCount)), (t_kind_a, .inl (cI, 10, .inl t_kind)), (t_stratum_a, .inl (cI, 10, .inl t_stratum)), (t_holds_a, .inl (cZ, 17280, .inl z5)), (t_value_a, .inl (cI, 6, .inl t_value))] H := hP
  have hD : va_D A [(t, .inr (9, [.int t_thrown, .ref t_tape_a, .int t_taped, .int t_fault, .int t_faultPlace, .int t_at, .int t_rules, .ref t_firstPart_a, .ref t_partMany_a, .ref t_rulePlace_a, .int t_parts, .ref t_sort_a, .ref t_predicate_a, .ref t_firstTerm_a, .ref t_termMany_a, .ref t_partPlace_a, .int t_terms, .ref t_term_a, .ref t_depends_a, .int t_ruleCount, .ref t_partCount_a, .ref t_partSort_a, .ref t_partPredicate_a, .ref t_partTerms_a, .ref t_termOf_a, .ref t_variableCount_a, .ref t_kind_a, .ref t_width_a, .ref t_stratum_a, .ref t_holds_a, .ref t_held_a, .ref t_kept_a, .int t_changes, .int t_staged, .ref t_stage_a, .int t_logged, .int t_safe, .ref t_logs_a, .ref t_value_a, .int (-1 : Int32), .int t_count, .int t_fresh])), (t_partCount_a, .inl (cI, 16, .inl t_partCount)), (t_partSort_a, .inl (cI, 96, .inl t_partSort)), (t_partPredicate_a, .inl (cI, 96, .inl t_partPredicate)), (t_partTerms_a, .inl (cI, 96, .inl t_partTerms)), (t_termOf_a, .inl (cI, 288, .inl t_termOf)), (t_variableCount_a, .inl (cI, 16, .inl t_variableCount)), (t_kind_a, .inl (cI, 10, .inl t_kind)), (t_stratum_a, .inl (cI, 10, .inl t_stratum)), (t_holds_a, .inl (cZ, 17280, .inl z5)), (t_value_a, .inl (cI, 6, .inl t_value))] := hD
  refine lv_iconst (v := (1 : Int32)) hx hb dX9_derive_57 (by decide) ?_
  refine lv_istore_n (lv' := [(1, .int (1 : Int32)), (0, .ref t)]) hx hb dX9_derive_58 rfl hl (by decide) rfl (fun ls hl => ?_)
  obtain ⟨z13, hz13, hm⟩ := bd_at hm
  refine L59 (-1 : Int32) F (1 : Int32) z5 t_value t_count t_fresh z13 hz13 (fun H locs ls hP hD hS hl => ?_) H locs ls hP hD hS (lv_sub hl [0, 1] rfl)
  have ho := Option.some.inj hm
  exact k_vret hx hb hr hlocks hK hP hD hS dX9_derive_130 hQ rfl (by rw [← ho])
noncomputable def M_Model_isConstant (x0 : Int32) : Option ((Int32)) := if x0 < 0 then (some (0 : Int32)) else (if (12 : Int32) ≤ x0 then (some (0 : Int32)) else (some (1 : Int32)))
set_option maxRecDepth 100000 in
set_option maxHeartbeats 4000000 in
theorem K_Model_isConstant (l : Launch) (D : va_G) (cB cI cZ cJ : ClassId) (x0 : Int32) (out : (Int32)) (hm : M_Model_isConstant x0 = some out) : KC l yX9_isConstant cX9_isConstant 1 (some .boolean) { frames := 0, cells := 0, slots := 0, locals := 0 } D (kTy cB cI cZ cJ) [.int x0] [] (some (.int out)) [] := by
  refine KC.of (by decide +kernel) (Nat.le_of_ble_eq_true rfl) ?_
  intro p e s m below meth c A ls args Q hQ CX hA hK hP hD hl
  obtain ⟨hx, hb, hr, hml, hown, hts, hlocks⟩ := CX
  have hown : s.vm.findClass RX9 = some m.cls := hown
  have hS : va_S A s.heap s.heap [] := va_S.rf
  have hl : lv_has ls 1 [(0, .int x0)] := hl
  unfold M_Model_isConstant at hm
  obtain ⟨H, eH⟩ : ∃ H, H = s.heap := ⟨_, rfl⟩
  obtain ⟨locs, el⟩ : ∃ x : List Loc, x = [] := ⟨_, rfl⟩
  have hP : va_P D vwCl [] H := eH ▸ hP
  have hS : va_S A s.heap H locs := by rw [eH, el]; exact hS
  suffices hW : W p l e { frames := 0, cells := 0, slots := 0, locals := 0 } s m args below meth c H locs 0 0 Q (F0 m 0 ls []) by rw [eH, el] at hW; exact hW
  clear eH el
  refine lv_iload_n hx hb dX9_isConstant_0 rfl (lv_at hl 0 rfl) ?_
  refine lv_if_lt (tgt := 14) hx hb dX9_isConstant_1 (by decide) (fun hc => ?_) (fun hc => ?_)
  · have hm := if_t hc hm
    refine lv_iconst (v := (0 : Int32)) hx hb dX9_isConstant_14 (by decide) ?_
    have ho := Option.some.inj hm
    exact k_zret (by decide +kernel) hx hb hr hlocks hK hP hD hS dX9_isConstant_15 hQ (by rw [← ho]) rfl
  · have hm := if_f hc hm
    refine lv_iload_n hx hb dX9_isConstant_4 rfl (lv_at hl 0 rfl) ?_
    refine lv_bipush (v := (12 : Int32)) hx hb dX9_isConstant_5 (by decide) ?_
    refine lv_icmp_ge (tgt := 14) hx hb dX9_isConstant_7 (by decide) (fun hc => ?_) (fun hc => ?_)
    · have hm := if_t hc hm
      refine lv_iconst (v := (0 : Int32)) hx hb dX9_isConstant_14 (by decide) ?_
      have ho := Option.some.inj hm
      exact k_zret (by decide +kernel) hx hb hr hlocks hK hP hD hS dX9_isConstant_15 hQ (by rw [← ho]) rfl
    · have hm := if_f hc hm
      refine lv_iconst (v := (1 : Int32)) hx hb dX9_isConstant_10 (by decide) ?_
      refine lv_goto (tgt := 15) hx hb dX9_isConstant_11 (by decide) ?_
      have ho := Option.some.inj hm
      exact k_zret (by decide +kernel) hx hb hr hlocks hK hP hD hS dX9_isConstant_15 hQ (by rw [← ho]) rfl
noncomputable def M_Model_place (t_kind : Nat → Int32) (t_width : Nat → Int32) (x0 : Int32) (x1 : Int32) (x2 : Int32) (x3 : Int32) : Option ((Int32)) := if x0 < 0 then (some (-1 : Int32)) else (if (10 : Int32) ≤ x0 then (some (-1 : Int32)) else (gd_ x0 10 <| if (t_kind x0.toNatClampNeg) = 0 then (some (-1 : Int32)) else (gd_ x0 10 <| lt_ ((t_width x0.toNatClampNeg)) fun v1 => if v1 ≤ 0 then (if v1 ≤ (1 : Int32) then (if v1 ≤ (2 : Int32) then (if v1 = 0 then (some (((1728 : Int32) * x0) + (0 : Int32))) else (if v1 = (1 : Int32) then (some (((1728 : Int32) * x0) + x1)) else (if v1 = (2 : Int32) then (lt_ ((((1728 : Int32) * x0) + (((12 : Int32) * x1) + x2))) fun v3 => some v3) else (lt_ ((((((12 : Int32) * x1) + x2) * (12 : Int32)) + x3)) fun v2 => some (((1728 : Int32) * x0) + v2))))) else (bd_ (M_Model_isConstant x3) fun z4 => if z4 = 0 then (some (-1 : Int32)) else (if v1 = 0 then (some (((1728 : Int32) * x0) + (0 : Int32))) else (if v1 = (1 : Int32) then (some (((1728 : Int32) * x0) + x1)) else (if v1 = (2 : Int32) then (lt_ ((((1728 : Int32) * x0) + (((12 : Int32) * x1) + x2))) fun v6 => some v6) else (lt_ ((((((12 : Int32) * x1) + x2) * (12 : Int32)) + x3)) fun v5 => some (((1728 : Int32) * x0) + v5))))))) else (bd_ (M_Model_isConstant x2) fun z7 => if z7 = 0 then (some (-1 : Int32)) else (if v1 ≤ (2 : Int32) then (if v1 = 0 then (some (((1728 : Int32) * x0) + (0 : Int32))) else (if v1 = (1 : Int32) then (some (((1728 : Int32) * x0) + x1)) else (if v1 = (2 : Int32) then (lt_ ((((1728 : Int32) * x0) + (((12 : Int32) * x1) + x2))) fun v9 => some v9) else (lt_ ((((((12 : Int32) * x1) + x2) * (12 : Int32)) + x3)) fun v8 => some (((1728 : Int32) * x0) + v8))))) else (bd_ (M_Model_isConstant x3) fun z10 => if z10 = 0 then (some (-1 : Int32)) else (if v1 = 0 then (some (((1728 : Int32) * x0) + (0 : Int32))) else (if v1 = (1 : Int32) then (some (((1728 : Int32) * x0) + x1)) else (if v1 = (2 : Int32) then (lt_ ((((1728 : Int32) * x0) + (((12 : Int32) * x1) + x2))) fun v12 => some v12) else (lt_ ((((((12 : Int32) * x1) + x2) * (12 : Int32)) + x3)) fun v11 => some (((1728 : Int32) * x0) + v11))))))))) else (bd_ (M_Model_isConstant x1) fun z13 => if z13 = 0 then (some (-1 : Int32)) else (if v1 ≤ (1 : Int32) then (if v1 ≤ (2 : Int32) then (if v1 = 0 then (some (((1728 : Int32) * x0) + (0 : Int32))) else (if v1 = (1 : Int32) then (some (((1728 : Int32) * x0) + x1)) else (if v1 = (2 : Int32) then (lt_ ((((1728 : Int32) * x0) + (((12 : Int32) * x1) + x2))) fun v15 => some v15) else (lt_ ((((((12 : Int32) * x1) + x2) * (12 : Int32)) + x3)) fun v14 => some (((1728 : Int32) * x0) + v14))))) else (bd_ (M_Model_isConstant x3) fun z16 => if z16 = 0 then (some (-1 : Int32)) else (if v1 = 0 then (some (((1728 : Int32) * x0) + (0 : Int32))) else (if v1 = (1 : Int32) then (some (((1728 : Int32) * x0) + x1)) else (if v1 = (2 : Int32) then (lt_ ((((1728 : Int32) * x0) + (((12 : Int32) * x1) + x2))) fun v18 => some v18) else (lt_ ((((((12 : Int32) * x1) + x2) * (12 : Int32)) + x3)) fun v17 => some (((1728 : Int32) * x0) + v17))))))) else (bd_ (M_Model_isConstant x2) fun z19 => if z19 = 0 then (some (-1 : Int32)) else (if v1 ≤ (2 : Int32) then (if v1 = 0 then (some (((1728 : Int32) * x0) + (0 : Int32))) else (if v1 = (1 : Int32) then (some (((1728 : Int32) * x0) + x1)) else (if v1 = (2 : Int32) then (lt_ ((((1728 : Int32) * x0) + (((12 : Int32) * x1) + x2))) fun v21 => some v21) else (lt_ ((((((12 : Int32) * x1) + x2) * (12 : Int32)) + x3)) fun v20 => some (((1728 : Int32) * x0) + v20))))) else (bd_ (M_Model_isConstant x3) fun z22 => if z22 = 0 then (some (-1 : Int32)) else (if v1 = 0 then (some (((1728 : Int32) * x0) + (0 : Int32))) else (if v1 = (1 : Int32) then (some (((1728 : Int32) * x0) + x1)) else (if v1 = (2 : Int32) then (lt_ ((((1728 : Int32) * x0) + (((12 : Int32) * x1) + x2))) fun v24 => some v24) else (lt_ ((((((12 : Int32) * x1) + x2) * (12 : Int32)) + x3)) fun v23 => some (((1728 : Int32) * x0) + v23)))))))))))))
set_option maxRecDepth 100000 in
set_option maxHeartbeats 4000000 in
theorem K_Model_place (l : Launch) (D : va_G) (cB cI cZ cJ : ClassId) (t : Nat) (t_tape_a : Nat) (t_firstPart_a : Nat) (t_partMany_a : Nat) (t_rulePlace_a : Nat) (t_sort_a : Nat) (t_predicate_a : Nat) (t_firstTerm_a : Nat) (t_termMany_a : Nat) (t_partPlace_a : Nat) (t_term_a : Nat) (t_depends_a : Nat) (t_partCount_a : Nat) (t_partSort_a : Nat) (t_partPredicate_a : Nat) (t_partTerms_a : Nat) (t_termOf_a : Nat) (t_variableCount_a : Nat) (t_kind_a : Nat) (t_width_a : Nat) (t_stratum_a : Nat) (t_holds_a : Nat) (t_held_a : Nat) (t_kept_a : Nat) (t_stage_a : Nat) (t_logs_a : Nat) (t_value_a : Nat) (t_thrown : Int32) (t_taped : Int32) (t_fault : Int32) (t_faultPlace : Int32) (t_at : Int32) (t_rules : Int32) (t_parts : Int32) (t_terms : Int32) (t_ruleCount : Int32) (t_changes : Int32) (t_staged : Int32) (t_logged : Int32) (t_safe : Int32) (t_wanted : Int32) (t_count : Int32) (t_fresh : Int32) (t_kind : Nat → Int32) (t_width : Nat → Int32) (x0 : Int32) (x1 : Int32) (x2 : Int32) (x3 : Int32) (out : (Int32)) (hm : M_Model_place t_kind t_width x0 x1 x2 x3 = some out) : KC l yX9_place cX9_place 6 (some .int) { frames := 1, cells := 0, slots := 0, locals := 20 } D (kTy cB cI cZ cJ) [.ref t, .int x0, .int x1, .int x2, .int x3] [(t, .inr (9, [.int t_thrown, .ref t_tape_a, .int t_taped, .int t_fault, .int t_faultPlace, .int t_at, .int t_rules, .ref t_firstPart_a, .ref t_partMany_a, .ref t_rulePlace_a, .int t_parts, .ref t_sort_a, .ref t_predicate_a, .ref t_firstTerm_a, .ref t_termMany_a, .ref t_partPlace_a, .int t_terms, .ref t_term_a, .ref t_depends_a, .int t_ruleCount, .ref t_partCount_a, .ref t_partSort_a, .ref t_partPredicate_a, .ref t_partTerms_a, .ref t_termOf_a, .ref t_variableCount_a, .ref t_kind_a, .ref t_width_a, .ref t_stratum_a, .ref t_holds_a, .ref t_held_a, .ref t_kept_a, .int t_changes, .int t_staged, .ref t_stage_a, .int t_logged, .int t_safe, .ref t_logs_a, .ref t_value_a, .int t_wanted, .int t_count, .int t_fresh])), (t_kind_a, .inl (cI, 10, .inl t_kind)), (t_width_a, .inl (cI, 10, .inl t_width))] (some (.int out)) [(t, .inr (9, [.int t_thrown, .ref t_tape_a, .int t_taped, .int t_fault, .int t_faultPlace, .int t_at, .int t_rules, .ref t_firstPart_a, .ref t_partMany_a, .ref t_rulePlace_a, .int t_parts, .ref t_sort_a, .ref t_predicate_a, .ref t_firstTerm_a, .ref t_termMany_a, .ref t_partPlace_a, .int t_terms, .ref t_term_a, .ref t_depends_a, .int t_ruleCount, .ref t_partCount_a, .ref t_partSort_a, .ref t_partPredicate_a, .ref t_partTerms_a, .ref t_termOf_a, .ref t_variableCount_a, .ref t_kind_a, .ref t_width_a, .ref t_stratum_a, .ref t_holds_a, .ref t_held_a, .ref t_kept_a, .int t_changes, .int t_staged, .ref t_stage_a, .int t_logged, .int t_safe, .ref t_logs_a, .ref t_value_a, .int t_wanted, .int t_count, .int t_fresh])), (t_kind_a, .inl (cI, 10, .inl t_kind)), (t_width_a, .inl (cI, 10, .inl t_width))] := by
  refine KC.of (by decide +kernel) (Nat.le_of_ble_eq_true rfl) ?_
  intro p e s m below meth c A ls args Q hQ CX hA hK hP hD hl
  obtain ⟨hx, hb, hr, hml, hown, hts, hlocks⟩ := CX
  have hown : s.vm.findClass RX9 = some m.cls := hown
  have hS : va_S A s.heap s.heap [] := va_S.rf
  have hl : lv_has ls 6 [(0, .ref t), (1, .int x0), (2, .int x1), (3, .int x2), (4, .int x3)] := hl
  unfold M_Model_place at hm
  obtain ⟨H, eH⟩ : ∃ H, H = s.heap := ⟨_, rfl⟩
  obtain ⟨locs, el⟩ : ∃ x : List Loc, x = [] := ⟨_, rfl⟩
  have hP : va_P D vwCl [(t, .inr (9, [.int t_thrown, .ref t_tape_a, .int t_taped, .int t_fault, .int t_faultPlace, .int t_at, .int t_rules, .ref t_firstPart_a, .ref t_partMany_a, .ref t_rulePlace_a, .int t_parts, .ref t_sort_a, .ref t_predicate_a, .ref t_firstTerm_a, .ref t_termMany_a, .ref t_partPlace_a, .int t_terms, .ref t_term_a, .ref t_depends_a, .int t_ruleCount, .ref t_partCount_a, .ref t_partSort_a, .ref t_partPredicate_a, .ref t_partTerms_a, .ref t_termOf_a, .ref t_variableCount_a, .ref t_kind_a, .ref t_width_a, .ref t_stratum_a, .ref t_holds_a, .ref t_held_a, .ref t_kept_a, .int t_changes, .int t_staged, .ref t_stage_a, .int t_logged, .int t_safe, .ref t_logs_a, .ref t_value_a, .int t_wanted, .int t_count, .int t_fresh])), (t_kind_a, .inl (cI, 10, .inl t_kind)), (t_width_a, .inl (cI, 10, .inl t_width))] H := eH ▸ hP
  have hS : va_S A s.heap H locs := by rw [eH, el]; exact hS
  suffices hW : W p l e { frames := 1, cells := 0, slots := 0, locals := 20 } s m args below meth c H locs 0 0 Q (F0 m 0 ls []) by rw [eH, el] at hW; exact hW
  clear eH el
  refine lv_iload_n hx hb dX9_place_0 rfl (lv_at hl 1 rfl) ?_
  refine lv_if_lt (tgt := 19) hx hb dX9_place_1 (by decide) (fun hc => ?_) (fun hc => ?_)
  · have hm := if_t hc hm
    refine lv_iconst (v := (-1 : Int32)) hx hb dX9_place_19 (by decide) ?_
    have ho := Option.some.inj hm
    exact k_iret hx hb hr hlocks hK hP hD hS dX9_place_20 hQ (by rw [← ho]) rfl
  · have hm := if_f hc hm
    refine lv_iload_n hx hb dX9_place_4 rfl (lv_at hl 1 rfl) ?_
    refine lv_bipush (v := (10 : Int32)) hx hb dX9_place_5 (by decide) ?_
    refine lv_icmp_ge (tgt := 19) hx hb dX9_place_7 (by decide) (fun hc => ?_) (fun hc => ?_)
    · have hm := if_t hc hm
      refine lv_iconst (v := (-1 : Int32)) hx hb dX9_place_19 (by decide) ?_
      have ho := Option.some.inj hm
      exact k_iret hx hb hr hlocks hK hP hD hS dX9_place_20 hQ (by rw [← ho]) rfl
    · have hm := if_f hc hm
      refine lv_aload_n hx hb dX9_place_10 rfl (lv_at hl 0 rfl) ?_
      refine va_get (D := D) (ci := 9) (v := .ref t_kind_a) (C := RX9) (T := TX9) (N := 42) hx hb hts in_X9 hown hK hP 0 rfl rfl 26 (by decide) (hts _ kf_X9_62) (fun _ h9 => h9) rfl dX9_place_11 ?_
      refine lv_iload_n hx hb dX9_place_14 rfl (lv_at hl 1 rfl) ?_
      refine va_iald hx hb hK hP 1 1 rfl rfl (gd_in hm) dX9_place_15 ?_
      have hm := gd_go hm
      refine lv_if_ne (tgt := 21) hx hb dX9_place_16 (by decide) (fun hc => ?_) (fun hc => ?_)
      · have hm := if_f hc hm
        refine lv_aload_n hx hb dX9_place_21 rfl (lv_at hl 0 rfl) ?_
        refine va_get (D := D) (ci := 9) (v := .ref t_width_a) (C := RX9) (T := TX9) (N := 42) hx hb hts in_X9 hown hK hP 0 rfl rfl 27 (by decide) (hts _ kf_X9_65) (fun _ h9 => h9) rfl dX9_place_22 ?_
        refine lv_iload_n hx hb dX9_place_25 rfl (lv_at hl 1 rfl) ?_
        refine va_iald hx hb hK hP 2 1 rfl rfl (gd_in hm) dX9_place_26 ?_
        have hm := gd_go hm
        refine lv_topi (fun v1 ev1 => ?_)
        have hm := lt_at ev1 hm
        refine lv_istore (lv' := [(5, .int v1), (0, .ref t), (1, .int x0), (2, .int x1), (3, .int x2), (4, .int x3)]) hx hb dX9_place_27 hl (by decide) rfl (fun ls hl => ?_)
        refine lv_iload hx hb dX9_place_29 (lv_at hl 0 rfl) ?_
        refine lv_if_le (tgt := 41) hx hb dX9_place_31 (by decide) (fun hc => ?_) (fun hc => ?_)
        · have hm := if_t hc hm
          refine lv_iload hx hb dX9_place_41 (lv_at hl 0 rfl) ?_
          refine lv_iconst (v := (1 : Int32)) hx hb dX9_place_43 (by decide) ?_
          refine lv_icmp_le (tgt := 54) hx hb dX9_place_44 (by decide) (fun hc => ?_) (fun hc => ?_)
          · have hm := if_t hc hm
            refine lv_iload hx hb dX9_place_54 (lv_at hl 0 rfl) ?_
            refine lv_iconst (v := (2 : Int32)) hx hb dX9_place_56 (by decide) ?_
            refine lv_icmp_le (tgt := 70) hx hb dX9_place_57 (by decide) (fun hc => ?_) (fun hc => ?_)
            · have hm := if_t hc hm
              refine lv_sipush (v := (1728 : Int32)) hx hb dX9_place_70 (by decide) ?_
              refine lv_iload_n hx hb dX9_place_73 rfl (lv_at hl 2 rfl) ?_
              refine lv_imul hx hb dX9_place_74 ?_
              refine lv_iload hx hb dX9_place_75 (lv_at hl 0 rfl) ?_
              refine lv_if_ne (tgt := 84) hx hb dX9_place_77 (by decide) (fun hc => ?_) (fun hc => ?_)
              · have hm := if_f hc hm
                refine lv_iload hx hb dX9_place_84 (lv_at hl 0 rfl) ?_
                refine lv_iconst (v := (1 : Int32)) hx hb dX9_place_86 (by decide) ?_
                refine lv_icmp_ne (tgt := 94) hx hb dX9_place_87 (by decide) (fun hc => ?_) (fun hc => ?_)
                · have hm := if_f hc hm
                  refine lv_iload hx hb dX9_place_94 (lv_at hl 0 rfl) ?_
                  refine lv_iconst (v := (2 : Int32)) hx hb dX9_place_96 (by decide) ?_
                  refine lv_icmp_ne (tgt := 109) hx hb dX9_place_97 (by decide) (fun hc => ?_) (fun hc => ?_)
                  · have hm := if_f hc hm
                    refine lv_bipush (v := (12 : Int32)) hx hb dX9_place_109 (by decide) ?_
                    refine lv_iload_n hx hb dX9_place_111 rfl (lv_at hl 3 rfl) ?_
                    refine lv_imul hx hb dX9_place_112 ?_
                    refine lv_iload_n hx hb dX9_place_113 rfl (lv_at hl 4 rfl) ?_
                    refine lv_iadd hx hb dX9_place_114 ?_
                    refine lv_bipush (v := (12 : Int32)) hx hb dX9_place_115 (by decide) ?_
                    refine lv_imul hx hb dX9_place_117 ?_
                    refine lv_iload hx hb dX9_place_118 (lv_at hl 5 rfl) ?_
                    refine lv_iadd hx hb dX9_place_120 ?_
                    refine lv_topi (fun v2 ev2 => ?_)
                    have hm := lt_at ev2 hm
                    refine lv_iadd hx hb dX9_place_121 ?_
                    have ho := Option.some.inj hm
                    exact k_iret hx hb hr hlocks hK hP hD hS dX9_place_122 hQ (by rw [← ho]) rfl
                  · have hm := if_t hc hm
                    refine lv_bipush (v := (12 : Int32)) hx hb dX9_place_100 (by decide) ?_
                    refine lv_iload_n hx hb dX9_place_102 rfl (lv_at hl 3 rfl) ?_
                    refine lv_imul hx hb dX9_place_103 ?_
                    refine lv_iload_n hx hb dX9_place_104 rfl (lv_at hl 4 rfl) ?_
                    refine lv_iadd hx hb dX9_place_105 ?_
                    refine lv_goto (tgt := 121) hx hb dX9_place_106 (by decide) ?_
                    refine lv_iadd hx hb dX9_place_121 ?_
                    refine lv_topi (fun v3 ev3 => ?_)
                    have hm := lt_at ev3 hm
                    have ho := Option.some.inj hm
                    exact k_iret hx hb hr hlocks hK hP hD hS dX9_place_122 hQ (by rw [← ho]) rfl
                · have hm := if_t hc hm
                  refine lv_iload_n hx hb dX9_place_90 rfl (lv_at hl 3 rfl) ?_
                  refine lv_goto (tgt := 121) hx hb dX9_place_91 (by decide) ?_
                  refine lv_iadd hx hb dX9_place_121 ?_
                  have ho := Option.some.inj hm
                  exact k_iret hx hb hr hlocks hK hP hD hS dX9_place_122 hQ (by rw [← ho]) rfl
              · have hm := if_t hc hm
                refine lv_iconst (v := (0 : Int32)) hx hb dX9_place_80 (by decide) ?_
                refine lv_goto (tgt := 121) hx hb dX9_place_81 (by decide) ?_
                refine lv_iadd hx hb dX9_place_121 ?_
                have ho := Option.some.inj hm
                exact k_iret hx hb hr hlocks hK hP hD hS dX9_place_122 hQ (by rw [← ho]) rfl
            · have hm := if_f hc hm
              refine lv_iload hx hb dX9_place_60 (lv_at hl 5 rfl) ?_
              obtain ⟨z4, hz4, hm⟩ := bd_at hm
              refine k_callS (As := [.int x3]) (rest := []) (wr := [(t, .inr (9, [.int t_thrown, .ref t_tape_a, .int t_taped, .int t_fault, .int t_faultPlace, .int t_at, .int t_rules, .ref t_firstPart_a, .ref t_partMany_a, .ref t_rulePlace_a, .int t_parts, .ref t_sort_a, .ref t_predicate_a, .ref t_firstTerm_a, .ref t_termMany_a, .ref t_partPlace_a, .int t_terms, .ref t_term_a, .ref t_depends_a, .int t_ruleCount, .ref t_partCount_a, .ref t_partSort_a, .ref t_partPredicate_a, .ref t_partTerms_a, .ref t_termOf_a, .ref t_variableCount_a, .ref t_kind_a, .ref t_width_a, .ref t_stratum_a, .ref t_holds_a, .ref t_held_a, .ref t_kept_a, .int t_changes, .int t_staged, .ref t_stage_a, .int t_logged, .int t_safe, .ref t_logs_a, .ref t_value_a, .int t_wanted, .int t_count, .int t_fresh])), (t_kind_a, .inl (cI, 10, .inl t_kind)), (t_width_a, .inl (cI, 10, .inl t_width))]) (ws1 := [(t, .inr (9, [.int t_thrown, .ref t_tape_a, .int t_taped, .int t_fault, .int t_faultPlace, .int t_at, .int t_rules, .ref t_firstPart_a, .ref t_partMany_a, .ref t_rulePlace_a, .int t_parts, .ref t_sort_a, .ref t_predicate_a, .ref t_firstTerm_a, .ref t_termMany_a, .ref t_partPlace_a, .int t_terms, .ref t_term_a, .ref t_depends_a, .int t_ruleCount, .ref t_partCount_a, .ref t_partSort_a, .ref t_partPredicate_a, .ref t_partTerms_a, .ref t_termOf_a, .ref t_variableCount_a, .ref t_kind_a, .ref t_width_a, .ref t_stratum_a, .ref t_holds_a, .ref t_held_a, .ref t_kept_a, .int t_changes, .int t_staged, .ref t_stage_a, .int t_logged, .int t_safe, .ref t_logs_a, .ref t_value_a, .int t_wanted, .int t_count, .int t_fresh])), (t_kind_a, .inl (cI, 10, .inl t_kind)), (t_width_a, .inl (cI, 10, .inl t_width))]) [] [0, 1, 2] [0, 1, 2] (K_Model_isConstant l D cB cI cZ cJ x3 z4 hz4) ms_X9_isConstant km_X9_247 hx hb hml hown hts hK hP hD hS hA hl.1 ⟨Nat.zero_le _, Nat.zero_le _⟩ dX9_place_62 rfl rfl (Nat.le_of_ble_eq_true rfl) ⟨⟨rfl, rfl⟩, Nat.le_of_ble_eq_true rfl, Nat.le_of_ble_eq_true rfl⟩ rfl rfl (by decide) rfl (fun H locs hP hD hS => ?_)
              have hP : va_P D vwCl [(t, .inr (9, [.int t_thrown, .ref t_tape_a, .int t_taped, .int t_fault, .int t_faultPlace, .int t_at, .int t_rules, .ref t_firstPart_a, .ref t_partMany_a, .ref t_rulePlace_a, .int t_parts, .ref t_sort_a, .ref t_predicate_a, .ref t_firstTerm_a, .ref t_termMany_a, .ref t_partPlace_a, .int t_terms, .ref t_term_a, .ref t_depends_a, .int t_ruleCount, .ref t_partCount_a, .ref t_partSort_a, .ref t_partPredicate_a, .ref t_partTerms_a, .ref t_termOf_a, .ref t_variableCount_a, .ref t_kind_a, .ref t_width_a, .ref t_stratum_a, .ref t_holds_a, .ref t_held_a, .ref t_kept_a, .int t_changes, .int t_staged, .ref t_stage_a, .int t_logged, .int t_safe, .ref t_logs_a, .ref t_value_a, .int t_wanted, .int t_count, .int t_fresh])), (t_kind_a, .inl (cI, 10, .inl t_kind)), (t_width_a, .inl (cI, 10, .inl t_width))] H := hP
              have hD : va_D A [(t, .inr (9, [.int t_thrown, .ref t_tape_a, .int t_taped, .int t_fault, .int t_faultPlace, .int t_at, .int t_rules, .ref t_firstPart_a, .ref t_partMany_a, .ref t_rulePlace_a, .int t_parts, .ref t_sort_a, .ref t_predicate_a, .ref t_firstTerm_a, .ref t_termMany_a, .ref t_partPlace_a, .int t_terms, .ref t_term_a, .ref t_depends_a, .int t_ruleCount, .ref t_partCount_a, .ref t_partSort_a, .ref t_partPredicate_a, .ref t_partTerms_a, .ref t_termOf_a, .ref t_variableCount_a, .ref t_kind_a, .ref t_width_a, .ref t_stratum_a, .ref t_holds_a, .ref t_held_a, .ref t_kept_a, .int t_changes, .int t_staged, .ref t_stage_a, .int t_logged, .int t_safe, .ref t_logs_a, .ref t_value_a, .int t_wanted, .int t_count, .int t_fresh])), (t_kind_a, .inl (cI, 10, .inl t_kind)), (t_width_a, .inl (cI, 10, .inl t_width))] := hD
              refine lv_if_ne (tgt := 70) hx hb dX9_place_65 (by decide) (fun hc => ?_) (fun hc => ?_)
              · have hm := if_f hc hm
                refine lv_sipush (v := (1728 : Int32)) hx hb dX9_place_70 (by decide) ?_
                refine lv_iload_n hx hb dX9_place_73 rfl (lv_at hl 2 rfl) ?_
                refine lv_imul hx hb dX9_place_74 ?_
                refine lv_iload hx hb dX9_place_75 (lv_at hl 0 rfl) ?_
                refine lv_if_ne (tgt := 84) hx hb dX9_place_77 (by decide) (fun hc => ?_) (fun hc => ?_)
                · have hm := if_f hc hm
                  refine lv_iload hx hb dX9_place_84 (lv_at hl 0 rfl) ?_
                  refine lv_iconst (v := (1 : Int32)) hx hb dX9_place_86 (by decide) ?_
                  refine lv_icmp_ne (tgt := 94) hx hb dX9_place_87 (by decide) (fun hc => ?_) (fun hc => ?_)
                  · have hm := if_f hc hm
                    refine lv_iload hx hb dX9_place_94 (lv_at hl 0 rfl) ?_
                    refine lv_iconst (v := (2 : Int32)) hx hb dX9_place_96 (by decide) ?_
                    refine lv_icmp_ne (tgt := 109) hx hb dX9_place_97 (by decide) (fun hc => ?_) (fun hc => ?_)
                    · have hm := if_f hc hm
                      refine lv_bipush (v := (12 : Int32)) hx hb dX9_place_109 (by decide) ?_
                      refine lv_iload_n hx hb dX9_place_111 rfl (lv_at hl 3 rfl) ?_
                      refine lv_imul hx hb dX9_place_112 ?_
                      refine lv_iload_n hx hb dX9_place_113 rfl (lv_at hl 4 rfl) ?_
                      refine lv_iadd hx hb dX9_place_114 ?_
                      refine lv_bipush (v := (12 : Int32)) hx hb dX9_place_115 (by decide) ?_
                      refine lv_imul hx hb dX9_place_117 ?_
                      refine lv_iload hx hb dX9_place_118 (lv_at hl 5 rfl) ?_
                      refine lv_iadd hx hb dX9_place_120 ?_
                      refine lv_topi (fun v5 ev5 => ?_)
                      have hm := lt_at ev5 hm
                      refine lv_iadd hx hb dX9_place_121 ?_
                      have ho := Option.some.inj hm
                      exact k_iret hx hb hr hlocks hK hP hD hS dX9_place_122 hQ (by rw [← ho]) rfl
                    · have hm := if_t hc hm
                      refine lv_bipush (v := (12 : Int32)) hx hb dX9_place_100 (by decide) ?_
                      refine lv_iload_n hx hb dX9_place_102 rfl (lv_at hl 3 rfl) ?_
                      refine lv_imul hx hb dX9_place_103 ?_
                      refine lv_iload_n hx hb dX9_place_104 rfl (lv_at hl 4 rfl) ?_
                      refine lv_iadd hx hb dX9_place_105 ?_
                      refine lv_goto (tgt := 121) hx hb dX9_place_106 (by decide) ?_
                      refine lv_iadd hx hb dX9_place_121 ?_
                      refine lv_topi (fun v6 ev6 => ?_)
                      have hm := lt_at ev6 hm
                      have ho := Option.some.inj hm
                      exact k_iret hx hb hr hlocks hK hP hD hS dX9_place_122 hQ (by rw [← ho]) rfl
                  · have hm := if_t hc hm
                    refine lv_iload_n hx hb dX9_place_90 rfl (lv_at hl 3 rfl) ?_
                    refine lv_goto (tgt := 121) hx hb dX9_place_91 (by decide) ?_
                    refine lv_iadd hx hb dX9_place_121 ?_
                    have ho := Option.some.inj hm
                    exact k_iret hx hb hr hlocks hK hP hD hS dX9_place_122 hQ (by rw [← ho]) rfl
                · have hm := if_t hc hm
                  refine lv_iconst (v := (0 : Int32)) hx hb dX9_place_80 (by decide) ?_
                  refine lv_goto (tgt := 121) hx hb dX9_place_81 (by decide) ?_
                  refine lv_iadd hx hb dX9_place_121 ?_
                  have ho := Option.some.inj hm
                  exact k_iret hx hb hr hlocks hK hP hD hS dX9_place_122 hQ (by rw [← ho]) rfl
              · have hm := if_t hc hm
                refine lv_iconst (v := (-1 : Int32)) hx hb dX9_place_68 (by decide) ?_
                have ho := Option.some.inj hm
                exact k_iret hx hb hr hlocks hK hP hD hS dX9_place_69 hQ (by rw [← ho]) rfl
          · have hm := if_f hc hm
            refine lv_iload_n hx hb dX9_place_47 rfl (lv_at hl 4 rfl) ?_
            obtain ⟨z7, hz7, hm⟩ := bd_at hm
            refine k_callS (As := [.int x2]) (rest := []) (wr := [(t, .inr (9, [.int t_thrown, .ref t_tape_a, .int t_taped, .int t_fault, .int t_faultPlace, .int t_at, .int t_rules, .ref t_firstPart_a, .ref t_partMany_a, .ref t_rulePlace_a, .int t_parts, .ref t_sort_a, .ref t_predicate_a, .ref t_firstTerm_a, .ref t_termMany_a, .ref t_partPlace_a, .int t_terms, .ref t_term_a, .ref t_depends_a, .int t_ruleCount, .ref t_partCount_a, .ref t_partSort_a, .ref t_partPredicate_a, .ref t_partTerms_a, .ref t_termOf_a, .ref t_variableCount_a, .ref t_kind_a, .ref t_width_a, .ref t_stratum_a, .ref t_holds_a, .ref t_held_a, .ref t_kept_a, .int t_changes, .int t_staged, .ref t_stage_a, .int t_logged, .int t_safe, .ref t_logs_a, .ref t_value_a, .int t_wanted, .int t_count, .int t_fresh])), (t_kind_a, .inl (cI, 10, .inl t_kind)), (t_width_a, .inl (cI, 10, .inl t_width))]) (ws1 := [(t, .inr (9, [.int t_thrown, .ref t_tape_a, .int t_taped, .int t_fault, .int t_faultPlace, .int t_at, .int t_rules, .ref t_firstPart_a, .ref t_partMany_a, .ref t_rulePlace_a, .int t_parts, .ref t_sort_a, .ref t_predicate_a, .ref t_firstTerm_a, .ref t_termMany_a, .ref t_partPlace_a, .int t_terms, .ref t_term_a, .ref t_depends_a, .int t_ruleCount, .ref t_partCount_a, .ref t_partSort_a, .ref t_partPredicate_a, .ref t_partTerms_a, .ref t_termOf_a, .ref t_variableCount_a, .ref t_kind_a, .ref t_width_a, .ref t_stratum_a, .ref t_holds_a, .ref t_held_a, .ref t_kept_a, .int t_changes, .int t_staged, .ref t_stage_a, .int t_logged, .int t_safe, .ref t_logs_a, .ref t_value_a, .int t_wanted, .int t_count, .int t_fresh])), (t_kind_a, .inl (cI, 10, .inl t_kind)), (t_width_a, .inl (cI, 10, .inl t_width))]) [] [0, 1, 2] [0, 1, 2] (K_Model_isConstant l D cB cI cZ cJ x2 z7 hz7) ms_X9_isConstant km_X9_247 hx hb hml hown hts hK hP hD hS hA hl.1 ⟨Nat.zero_le _, Nat.zero_le _⟩ dX9_place_48 rfl rfl (Nat.le_of_ble_eq_true rfl) ⟨⟨rfl, rfl⟩, Nat.le_of_ble_eq_true rfl, Nat.le_of_ble_eq_true rfl⟩ rfl rfl (by decide) rfl (fun H locs hP hD hS => ?_)
            have hP : va_P D vwCl [(t, .inr (9, [.int t_thrown, .ref t_tape_a, .int t_taped, .int t_fault, .int t_faultPlace, .int t_at, .int t_rules, .ref t_firstPart_a, .ref t_partMany_a, .ref t_rulePlace_a, .int t_parts, .ref t_sort_a, .ref t_predicate_a, .ref t_firstTerm_a, .ref t_termMany_a, .ref t_partPlace_a, .int t_terms, .ref t_term_a, .ref t_depends_a, .int t_ruleCount, .ref t_partCount_a, .ref t_partSort_a, .ref t_partPredicate_a, .ref t_partTerms_a, .ref t_termOf_a, .ref t_variableCount_a, .ref t_kind_a, .ref t_width_a, .ref t_stratum_a, .ref t_holds_a, .ref t_held_a, .ref t_kept_a, .int t_changes, .int t_staged, .ref t_stage_a, .int t_logged, .int t_safe, .ref t_logs_a, .ref t_value_a, .int t_wanted, .int t_count, .int t_fresh])), (t_kind_a, .inl (cI, 10, .inl t_kind)), (t_width_a, .inl (cI, 10, .inl t_width))] H := hP
            have hD : va_D A [(t, .inr (9, [.int t_thrown, .ref t_tape_a, .int t_taped, .int t_fault, .int t_faultPlace, .int t_at, .int t_rules, .ref t_firstPart_a, .ref t_partMany_a, .ref t_rulePlace_a, .int t_parts, .ref t_sort_a, .ref t_predicate_a, .ref t_firstTerm_a, .ref t_termMany_a, .ref t_partPlace_a, .int t_terms, .ref t_term_a, .ref t_depends_a, .int t_ruleCount, .ref t_partCount_a, .ref t_partSort_a, .ref t_partPredicate_a, .ref t_partTerms_a, .ref t_termOf_a, .ref t_variableCount_a, .ref t_kind_a, .ref t_width_a, .ref t_stratum_a, .ref t_holds_a, .ref t_held_a, .ref t_kept_a, .int t_changes, .int t_staged, .ref t_stage_a, .int t_logged, .int t_safe, .ref t_logs_a, .ref t_value_a, .int t_wanted, .int t_count, .int t_fresh])), (t_kind_a, .inl (cI, 10, .inl t_kind)), (t_width_a, .inl (cI, 10, .inl t_width))] := hD
            refine lv_if_eq (tgt := 68) hx hb dX9_place_51 (by decide) (fun hc => ?_) (fun hc => ?_)
            · have hm := if_t hc hm
              refine lv_iconst (v := (-1 : Int32)) hx hb dX9_place_68 (by decide) ?_
              have ho := Option.some.inj hm
              exact k_iret hx hb hr hlocks hK hP hD hS dX9_place_69 hQ (by rw [← ho]) rfl
            · have hm := if_f hc hm
              refine lv_iload hx hb dX9_place_54 (lv_at hl 0 rfl) ?_
              refine lv_iconst (v := (2 : Int32)) hx hb dX9_place_56 (by decide) ?_
              refine lv_icmp_le (tgt := 70) hx hb dX9_place_57 (by decide) (fun hc => ?_) (fun hc => ?_)
              · have hm := if_t hc hm
                refine lv_sipush (v := (1728 : Int32)) hx hb dX9_place_70 (by decide) ?_
                refine lv_iload_n hx hb dX9_place_73 rfl (lv_at hl 2 rfl) ?_
                refine lv_imul hx hb dX9_place_74 ?_
                refine lv_iload hx hb dX9_place_75 (lv_at hl 0 rfl) ?_
                refine lv_if_ne (tgt := 84) hx hb dX9_place_77 (by decide) (fun hc => ?_) (fun hc => ?_)
                · have hm := if_f hc hm
                  refine lv_iload hx hb dX9_place_84 (lv_at hl 0 rfl) ?_
                  refine lv_iconst (v := (1 : Int32)) hx hb dX9_place_86 (by decide) ?_
                  refine lv_icmp_ne (tgt := 94) hx hb dX9_place_87 (by decide) (fun hc => ?_) (fun hc => ?_)
                  · have hm := if_f hc hm
                    refine lv_iload hx hb dX9_place_94 (lv_at hl 0 rfl) ?_
                    refine lv_iconst (v := (2 : Int32)) hx hb dX9_place_96 (by decide) ?_
                    refine lv_icmp_ne (tgt := 109) hx hb dX9_place_97 (by decide) (fun hc => ?_) (fun hc => ?_)
                    · have hm := if_f hc hm
                      refine lv_bipush (v := (12 : Int32)) hx hb dX9_place_109 (by decide) ?_
                      refine lv_iload_n hx hb dX9_place_111 rfl (lv_at hl 3 rfl) ?_
                      refine lv_imul hx hb dX9_place_112 ?_
                      refine lv_iload_n hx hb dX9_place_113 rfl (lv_at hl 4 rfl) ?_
                      refine lv_iadd hx hb dX9_place_114 ?_
                      refine lv_bipush (v := (12 : Int32)) hx hb dX9_place_115 (by decide) ?_
                      refine lv_imul hx hb dX9_place_117 ?_
                      refine lv_iload hx hb dX9_place_118 (lv_at hl 5 rfl) ?_
                      refine lv_iadd hx hb dX9_place_120 ?_
                      refine lv_topi (fun v8 ev8 => ?_)
                      have hm := lt_at ev8 hm
                      refine lv_iadd hx hb dX9_place_121 ?_
                      have ho := Option.some.inj hm
                      exact k_iret hx hb hr hlocks hK hP hD hS dX9_place_122 hQ (by rw [← ho]) rfl
                    · have hm := if_t hc hm
                      refine lv_bipush (v := (12 : Int32)) hx hb dX9_place_100 (by decide) ?_
                      refine lv_iload_n hx hb dX9_place_102 rfl (lv_at hl 3 rfl) ?_
                      refine lv_imul hx hb dX9_place_103 ?_
                      refine lv_iload_n hx hb dX9_place_104 rfl (lv_at hl 4 rfl) ?_
                      refine lv_iadd hx hb dX9_place_105 ?_
                      refine lv_goto (tgt := 121) hx hb dX9_place_106 (by decide) ?_
                      refine lv_iadd hx hb dX9_place_121 ?_
                      refine lv_topi (fun v9 ev9 => ?_)
                      have hm := lt_at ev9 hm
                      have ho := Option.some.inj hm
                      exact k_iret hx hb hr hlocks hK hP hD hS dX9_place_122 hQ (by rw [← ho]) rfl
                  · have hm := if_t hc hm
                    refine lv_iload_n hx hb dX9_place_90 rfl (lv_at hl 3 rfl) ?_
                    refine lv_goto (tgt := 121) hx hb dX9_place_91 (by decide) ?_
                    refine lv_iadd hx hb dX9_place_121 ?_
                    have ho := Option.some.inj hm
                    exact k_iret hx hb hr hlocks hK hP hD hS dX9_place_122 hQ (by rw [← ho]) rfl
                · have hm := if_t hc hm
                  refine lv_iconst (v := (0 : Int32)) hx hb dX9_place_80 (by decide) ?_
                  refine lv_goto (tgt := 121) hx hb dX9_place_81 (by decide) ?_
                  refine lv_iadd hx hb dX9_place_121 ?_
                  have ho := Option.some.inj hm
                  exact k_iret hx hb hr hlocks hK hP hD hS dX9_place_122 hQ (by rw [← ho]) rfl
              · have hm := if_f hc hm
                refine lv_iload hx hb dX9_place_60 (lv_at hl 5 rfl) ?_
                obtain ⟨z10, hz10, hm⟩ := bd_at hm
                refine k_callS (As := [.int x3]) (rest := []) (wr := [(t, .inr (9, [.int t_thrown, .ref t_tape_a, .int t_taped, .int t_fault, .int t_faultPlace, .int t_at, .int t_rules, .ref t_firstPart_a, .ref t_partMany_a, .ref t_rulePlace_a, .int t_parts, .ref t_sort_a, .ref t_predicate_a, .ref t_firstTerm_a, .ref t_termMany_a, .ref t_partPlace_a, .int t_terms, .ref t_term_a, .ref t_depends_a, .int t_ruleCount, .ref t_partCount_a, .ref t_partSort_a, .ref t_partPredicate_a, .ref t_partTerms_a, .ref t_termOf_a, .ref t_variableCount_a, .ref t_kind_a, .ref t_width_a, .ref t_stratum_a, .ref t_holds_a, .ref t_held_a, .ref t_kept_a, .int t_changes, .int t_staged, .ref t_stage_a, .int t_logged, .int t_safe, .ref t_logs_a, .ref t_value_a, .int t_wanted, .int t_count, .int t_fresh])), (t_kind_a, .inl (cI, 10, .inl t_kind)), (t_width_a, .inl (cI, 10, .inl t_width))]) (ws1 := [(t, .inr (9, [.int t_thrown, .ref t_tape_a, .int t_taped, .int t_fault, .int t_faultPlace, .int t_at, .int t_rules, .ref t_firstPart_a, .ref t_partMany_a, .ref t_rulePlace_a, .int t_parts, .ref t_sort_a, .ref t_predicate_a, .ref t_firstTerm_a, .ref t_termMany_a, .ref t_partPlace_a, .int t_terms, .ref t_term_a, .ref t_depends_a, .int t_ruleCount, .ref t_partCount_a, .ref t_partSort_a, .ref t_partPredicate_a, .ref t_partTerms_a, .ref t_termOf_a, .ref t_variableCount_a, .ref t_kind_a, .ref t_width_a, .ref t_stratum_a, .ref t_holds_a, .ref t_held_a, .ref t_kept_a, .int t_changes, .int t_staged, .ref t_stage_a, .int t_logged, .int t_safe, .ref t_logs_a, .ref t_value_a, .int t_wanted, .int t_count, .int t_fresh])), (t_kind_a, .inl (cI, 10, .inl t_kind)), (t_width_a, .inl (cI, 10, .inl t_width))]) [] [0, 1, 2] [0, 1, 2] (K_Model_isConstant l D cB cI cZ cJ x3 z10 hz10) ms_X9_isConstant km_X9_247 hx hb hml hown hts hK hP hD hS hA hl.1 ⟨Nat.zero_le _, Nat.zero_le _⟩ dX9_place_62 rfl rfl (Nat.le_of_ble_eq_true rfl) ⟨⟨rfl, rfl⟩, Nat.le_of_ble_eq_true rfl, Nat.le_of_ble_eq_true rfl⟩ rfl rfl (by decide) rfl (fun H locs hP hD hS => ?_)
                have hP : va_P D vwCl [(t, .inr (9, [.int t_thrown, .ref t_tape_a, .int t_taped, .int t_fault, .int t_faultPlace, .int t_at, .int t_rules, .ref t_firstPart_a, .ref t_partMany_a, .ref t_rulePlace_a, .int t_parts, .ref t_sort_a, .ref t_predicate_a, .ref t_firstTerm_a, .ref t_termMany_a, .ref t_partPlace_a, .int t_terms, .ref t_term_a, .ref t_depends_a, .int t_ruleCount, .ref t_partCount_a, .ref t_partSort_a, .ref t_partPredicate_a, .ref t_partTerms_a, .ref t_termOf_a, .ref t_variableCount_a, .ref t_kind_a, .ref t_width_a, .ref t_stratum_a, .ref t_holds_a, .ref t_held_a, .ref t_kept_a, .int t_changes, .int t_staged, .ref t_stage_a, .int t_logged, .int t_safe, .ref t_logs_a, .ref t_value_a, .int t_wanted, .int t_count, .int t_fresh])), (t_kind_a, .inl (cI, 10, .inl t_kind)), (t_width_a, .inl (cI, 10, .inl t_width))] H := hP
                have hD : va_D A [(t, .inr (9, [.int t_thrown, .ref t_tape_a, .int t_taped, .int t_fault, .int t_faultPlace, .int t_at, .int t_rules, .ref t_firstPart_a, .ref t_partMany_a, .ref t_rulePlace_a, .int t_parts, .ref t_sort_a, .ref t_predicate_a, .ref t_firstTerm_a, .ref t_termMany_a, .ref t_partPlace_a, .int t_terms, .ref t_term_a, .ref t_depends_a, .int t_ruleCount, .ref t_partCount_a, .ref t_partSort_a, .ref t_partPredicate_a, .ref t_partTerms_a, .ref t_termOf_a, .ref t_variableCount_a, .ref t_kind_a, .ref t_width_a, .ref t_stratum_a, .ref t_holds_a, .ref t_held_a, .ref t_kept_a, .int t_changes, .int t_staged, .ref t_stage_a, .int t_logged, .int t_safe, .ref t_logs_a, .ref t_value_a, .int t_wanted, .int t_count, .int t_fresh])), (t_kind_a, .inl (cI, 10, .inl t_kind)), (t_width_a, .inl (cI, 10, .inl t_width))] := hD
                refine lv_if_ne (tgt := 70) hx hb dX9_place_65 (by decide) (fun hc => ?_) (fun hc => ?_)
                · have hm := if_f hc hm
                  refine lv_sipush (v := (1728 : Int32)) hx hb dX9_place_70 (by decide) ?_
                  refine lv_iload_n hx hb dX9_place_73 rfl (lv_at hl 2 rfl) ?_
                  refine lv_imul hx hb dX9_place_74 ?_
                  refine lv_iload hx hb dX9_place_75 (lv_at hl 0 rfl) ?_
                  refine lv_if_ne (tgt := 84) hx hb dX9_place_77 (by decide) (fun hc => ?_) (fun hc => ?_)
                  · have hm := if_f hc hm
                    refine lv_iload hx hb dX9_place_84 (lv_at hl 0 rfl) ?_
                    refine lv_iconst (v := (1 : Int32)) hx hb dX9_place_86 (by decide) ?_
                    refine lv_icmp_ne (tgt := 94) hx hb dX9_place_87 (by decide) (fun hc => ?_) (fun hc => ?_)
                    · have hm := if_f hc hm
                      refine lv_iload hx hb dX9_place_94 (lv_at hl 0 rfl) ?_
                      refine lv_iconst (v := (2 : Int32)) hx hb dX9_place_96 (by decide) ?_
                      refine lv_icmp_ne (tgt := 109) hx hb dX9_place_97 (by decide) (fun hc => ?_) (fun hc => ?_)
                      · have hm := if_f hc hm
                        refine lv_bipush (v := (12 : Int32)) hx hb dX9_place_109 (by decide) ?_
                        refine lv_iload_n hx hb dX9_place_111 rfl (lv_at hl 3 rfl) ?_
                        refine lv_imul hx hb dX9_place_112 ?_
                        refine lv_iload_n hx hb dX9_place_113 rfl (lv_at hl 4 rfl) ?_
                        refine lv_iadd hx hb dX9_place_114 ?_
                        refine lv_bipush (v := (12 : Int32)) hx hb dX9_place_115 (by decide) ?_
                        refine lv_imul hx hb dX9_place_117 ?_
                        refine lv_iload hx hb dX9_place_118 (lv_at hl 5 rfl) ?_
                        refine lv_iadd hx hb dX9_place_120 ?_
                        refine lv_topi (fun v11 ev11 => ?_)
                        have hm := lt_at ev11 hm
                        refine lv_iadd hx hb dX9_place_121 ?_
                        have ho := Option.some.inj hm
                        exact k_iret hx hb hr hlocks hK hP hD hS dX9_place_122 hQ (by rw [← ho]) rfl
                      · have hm := if_t hc hm
                        refine lv_bipush (v := (12 : Int32)) hx hb dX9_place_100 (by decide) ?_
                        refine lv_iload_n hx hb dX9_place_102 rfl (lv_at hl 3 rfl) ?_
                        refine lv_imul hx hb dX9_place_103 ?_
                        refine lv_iload_n hx hb dX9_place_104 rfl (lv_at hl 4 rfl) ?_
                        refine lv_iadd hx hb dX9_place_105 ?_
                        refine lv_goto (tgt := 121) hx hb dX9_place_106 (by decide) ?_
                        refine lv_iadd hx hb dX9_place_121 ?_
                        refine lv_topi (fun v12 ev12 => ?_)
                        have hm := lt_at ev12 hm
                        have ho := Option.some.inj hm
                        exact k_iret hx hb hr hlocks hK hP hD hS dX9_place_122 hQ (by rw [← ho]) rfl
                    · have hm := if_t hc hm
                      refine lv_iload_n hx hb dX9_place_90 rfl (lv_at hl 3 rfl) ?_
                      refine lv_goto (tgt := 121) hx hb dX9_place_91 (by decide) ?_
                      refine lv_iadd hx hb dX9_place_121 ?_
                      have ho := Option.some.inj hm
                      exact k_iret hx hb hr hlocks hK hP hD hS dX9_place_122 hQ (by rw [← ho]) rfl
                  · have hm := if_t hc hm
                    refine lv_iconst (v := (0 : Int32)) hx hb dX9_place_80 (by decide) ?_
                    refine lv_goto (tgt := 121) hx hb dX9_place_81 (by decide) ?_
                    refine lv_iadd hx hb dX9_place_121 ?_
                    have ho := Option.some.inj hm
                    exact k_iret hx hb hr hlocks hK hP hD hS dX9_place_122 hQ (by rw [← ho]) rfl
                · have hm := if_t hc hm
                  refine lv_iconst (v := (-1 : Int32)) hx hb dX9_place_68 (by decide) ?_
                  have ho := Option.some.inj hm
                  exact k_iret hx hb hr hlocks hK hP hD hS dX9_place_69 hQ (by rw [← ho]) rfl
        · have hm := if_f hc hm
          refine lv_iload_n hx hb dX9_place_34 rfl (lv_at hl 3 rfl) ?_
          obtain ⟨z13, hz13, hm⟩ := bd_at hm
          refine k_callS (As := [.int x1]) (rest := []) (wr := [(t, .inr (9, [.int t_thrown, .ref t_tape_a, .int t_taped, .int t_fault, .int t_faultPlace, .int t_at, .int t_rules, .ref t_firstPart_a, .ref t_partMany_a, .ref t_rulePlace_a, .int t_parts, .ref t_sort_a, .ref t_predicate_a, .ref t_firstTerm_a, .ref t_termMany_a, .ref t_partPlace_a, .int t_terms, .ref t_term_a, .ref t_depends_a, .int t_ruleCount, .ref t_partCount_a, .ref t_partSort_a, .ref t_partPredicate_a, .ref t_partTerms_a, .ref t_termOf_a, .ref t_variableCount_a, .ref t_kind_a, .ref t_width_a, .ref t_stratum_a, .ref t_holds_a, .ref t_held_a, .ref t_kept_a, .int t_changes, .int t_staged, .ref t_stage_a, .int t_logged, .int t_safe, .ref t_logs_a, .ref t_value_a, .int t_wanted, .int t_count, .int t_fresh])), (t_kind_a, .inl (cI, 10, .inl t_kind)), (t_width_a, .inl (cI, 10, .inl t_width))]) (ws1 := [(t, .inr (9, [.int t_thrown, .ref t_tape_a, .int t_taped, .int t_fault, .int t_faultPlace, .int t_at, .int t_rules, .ref t_firstPart_a, .ref t_partMany_a, .ref t_rulePlace_a, .int t_parts, .ref t_sort_a, .ref t_predicate_a, .ref t_firstTerm_a, .ref t_termMany_a, .ref t_partPlace_a, .int t_terms, .ref t_term_a, .ref t_depends_a, .int t_ruleCount, .ref t_partCount_a, .ref t_partSort_a, .ref t_partPredicate_a, .ref t_partTerms_a, .ref t_termOf_a, .ref t_variableCount_a, .ref t_kind_a, .ref t_width_a, .ref t_stratum_a, .ref t_holds_a, .ref t_held_a, .ref t_kept_a, .int t_changes, .int t_staged, .ref t_stage_a, .int t_logged, .int t_safe, .ref t_logs_a, .ref t_value_a, .int t_wanted, .int t_count, .int t_fresh])), (t_kind_a, .inl (cI, 10, .inl t_kind)), (t_width_a, .inl (cI, 10, .inl t_width))]) [] [0, 1, 2] [0, 1, 2] (K_Model_isConstant l D cB cI cZ cJ x1 z13 hz13) ms_X9_isConstant km_X9_247 hx hb hml hown hts hK hP hD hS hA hl.1 ⟨Nat.zero_le _, Nat.zero_le _⟩ dX9_place_35 rfl rfl (Nat.le_of_ble_eq_true rfl) ⟨⟨rfl, rfl⟩, Nat.le_of_ble_eq_true rfl, Nat.le_of_ble_eq_true rfl⟩ rfl rfl (by decide) rfl (fun H locs hP hD hS => ?_)
          have hP : va_P D vwCl [(t, .inr (9, [.int t_thrown, .ref t_tape_a, .int t_taped, .int t_fault, .int t_faultPlace, .int t_at, .int t_rules, .ref t_firstPart_a, .ref t_partMany_a, .ref t_rulePlace_a, .int t_parts, .ref t_sort_a, .ref t_predicate_a, .ref t_firstTerm_a, .ref t_termMany_a, .ref t_partPlace_a, .int t_terms, .ref t_term_a, .ref t_depends_a, .int t_ruleCount, .ref t_partCount_a, .ref t_partSort_a, .ref t_partPredicate_a, .ref t_partTerms_a, .ref t_termOf_a, .ref t_variableCount_a, .ref t_kind_a, .ref t_width_a, .ref t_stratum_a, .ref t_holds_a, .ref t_held_a, .ref t_kept_a, .int t_changes, .int t_staged, .ref t_stage_a, .int t_logged, .int t_safe, .ref t_logs_a, .ref t_value_a, .int t_wanted, .int t_count, .int t_fresh])), (t_kind_a, .inl (cI, 10, .inl t_kind)), (t_width_a, .inl (cI, 10, .inl t_width))] H := hP
          have hD : va_D A [(t, .inr (9, [.int t_thrown, .ref t_tape_a, .int t_taped, .int t_fault, .int t_faultPlace, .int t_at, .int t_rules, .ref t_firstPart_a, .ref t_partMany_a, .ref t_rulePlace_a, .int t_parts, .ref t_sort_a, .ref t_predicate_a, .ref t_firstTerm_a, .ref t_termMany_a, .ref t_partPlace_a, .int t_terms, .ref t_term_a, .ref t_depends_a, .int t_ruleCount, .ref t_partCount_a, .ref t_partSort_a, .ref t_partPredicate_a, .ref t_partTerms_a, .ref t_termOf_a, .ref t_variableCount_a, .ref t_kind_a, .ref t_width_a, .ref t_stratum_a, .ref t_holds_a, .ref t_held_a, .ref t_kept_a, .int t_changes, .int t_staged, .ref t_stage_a, .int t_logged, .int t_safe, .ref t_logs_a, .ref t_value_a, .int t_wanted, .int t_count, .int t_fresh])), (t_kind_a, .inl (cI, 10, .inl t_kind)), (t_width_a, .inl (cI, 10, .inl t_width))] := hD
          refine lv_if_eq (tgt := 68) hx hb dX9_place_38 (by decide) (fun hc => ?_) (fun hc => ?_)
          · have hm := if_t hc hm
            refine lv_iconst (v := (-1 : Int32)) hx hb dX9_place_68 (by decide) ?_
            have ho := Option.some.inj hm
            exact k_iret hx hb hr hlocks hK hP hD hS dX9_place_69 hQ (by rw [← ho]) rfl
          · have hm := if_f hc hm
            refine lv_iload hx hb dX9_place_41 (lv_at hl 0 rfl) ?_
            refine lv_iconst (v := (1 : Int32)) hx hb dX9_place_43 (by decide) ?_
            refine lv_icmp_le (tgt := 54) hx hb dX9_place_44 (by decide) (fun hc => ?_) (fun hc => ?_)
            · have hm := if_t hc hm
              refine lv_iload hx hb dX9_place_54 (lv_at hl 0 rfl) ?_
              refine lv_iconst (v := (2 : Int32)) hx hb dX9_place_56 (by decide) ?_
              refine lv_icmp_le (tgt := 70) hx hb dX9_place_57 (by decide) (fun hc => ?_) (fun hc => ?_)
              · have hm := if_t hc hm
                refine lv_sipush (v := (1728 : Int32)) hx hb dX9_place_70 (by decide) ?_
                refine lv_iload_n hx hb dX9_place_73 rfl (lv_at hl 2 rfl) ?_
                refine lv_imul hx hb dX9_place_74 ?_
                refine lv_iload hx hb dX9_place_75 (lv_at hl 0 rfl) ?_
                refine lv_if_ne (tgt := 84) hx hb dX9_place_77 (by decide) (fun hc => ?_) (fun hc => ?_)
                · have hm := if_f hc hm
                  refine lv_iload hx hb dX9_place_84 (lv_at hl 0 rfl) ?_
                  refine lv_iconst (v := (1 : Int32)) hx hb dX9_place_86 (by decide) ?_
                  refine lv_icmp_ne (tgt := 94) hx hb dX9_place_87 (by decide) (fun hc => ?_) (fun hc => ?_)
                  · have hm := if_f hc hm
                    refine lv_iload hx hb dX9_place_94 (lv_at hl 0 rfl) ?_
                    refine lv_iconst (v := (2 : Int32)) hx hb dX9_place_96 (by decide) ?_
                    refine lv_icmp_ne (tgt := 109) hx hb dX9_place_97 (by decide) (fun hc => ?_) (fun hc => ?_)
                    · have hm := if_f hc hm
                      refine lv_bipush (v := (12 : Int32)) hx hb dX9_place_109 (by decide) ?_
                      refine lv_iload_n hx hb dX9_place_111 rfl (lv_at hl 3 rfl) ?_
                      refine lv_imul hx hb dX9_place_112 ?_
                      refine lv_iload_n hx hb dX9_place_113 rfl (lv_at hl 4 rfl) ?_
                      refine lv_iadd hx hb dX9_place_114 ?_
                      refine lv_bipush (v := (12 : Int32)) hx hb dX9_place_115 (by decide) ?_
                      refine lv_imul hx hb dX9_place_117 ?_
                      refine lv_iload hx hb dX9_place_118 (lv_at hl 5 rfl) ?_
                      refine lv_iadd hx hb dX9_place_120 ?_
                      refine lv_topi (fun v14 ev14 => ?_)
                      have hm := lt_at ev14 hm
                      refine lv_iadd hx hb dX9_place_121 ?_
                      have ho := Option.some.inj hm
                      exact k_iret hx hb hr hlocks hK hP hD hS dX9_place_122 hQ (by rw [← ho]) rfl
                    · have hm := if_t hc hm
                      refine lv_bipush (v := (12 : Int32)) hx hb dX9_place_100 (by decide) ?_
                      refine lv_iload_n hx hb dX9_place_102 rfl (lv_at hl 3 rfl) ?_
                      refine lv_imul hx hb dX9_place_103 ?_
                      refine lv_iload_n hx hb dX9_place_104 rfl (lv_at hl 4 rfl) ?_
                      refine lv_iadd hx hb dX9_place_105 ?_
                      refine lv_goto (tgt := 121) hx hb dX9_place_106 (by decide) ?_
                      refine lv_iadd hx hb dX9_place_121 ?_
                      refine lv_topi (fun v15 ev15 => ?_)
                      have hm := lt_at ev15 hm
                      have ho := Option.some.inj hm
                      exact k_iret hx hb hr hlocks hK hP hD hS dX9_place_122 hQ (by rw [← ho]) rfl
                  · have hm := if_t hc hm
                    refine lv_iload_n hx hb dX9_place_90 rfl (lv_at hl 3 rfl) ?_
                    refine lv_goto (tgt := 121) hx hb dX9_place_91 (by decide) ?_
                    refine lv_iadd hx hb dX9_place_121 ?_
                    have ho := Option.some.inj hm
                    exact k_iret hx hb hr hlocks hK hP hD hS dX9_place_122 hQ (by rw [← ho]) rfl
                · have hm := if_t hc hm
                  refine lv_iconst (v := (0 : Int32)) hx hb dX9_place_80 (by decide) ?_
                  refine lv_goto (tgt := 121) hx hb dX9_place_81 (by decide) ?_
                  refine lv_iadd hx hb dX9_place_121 ?_
                  have ho := Option.some.inj hm
                  exact k_iret hx hb hr hlocks hK hP hD hS dX9_place_122 hQ (by rw [← ho]) rfl
              · have hm := if_f hc hm
                refine lv_iload hx hb dX9_place_60 (lv_at hl 5 rfl) ?_
                obtain ⟨z16, hz16, hm⟩ := bd_at hm
                refine k_callS (As := [.int x3]) (rest := []) (wr := [(t, .inr (9, [.int t_thrown, .ref t_tape_a, .int t_taped, .int t_fault, .int t_faultPlace, .int t_at, .int t_rules, .ref t_firstPart_a, .ref t_partMany_a, .ref t_rulePlace_a, .int t_parts, .ref t_sort_a, .ref t_predicate_a, .ref t_firstTerm_a, .ref t_termMany_a, .ref t_partPlace_a, .int t_terms, .ref t_term_a, .ref t_depends_a, .int t_ruleCount, .ref t_partCount_a, .ref t_partSort_a, .ref t_partPredicate_a, .ref t_partTerms_a, .ref t_termOf_a, .ref t_variableCount_a, .ref t_kind_a, .ref t_width_a, .ref t_stratum_a, .ref t_holds_a, .ref t_held_a, .ref t_kept_a, .int t_changes, .int t_staged, .ref t_stage_a, .int t_logged, .int t_safe, .ref t_logs_a, .ref t_value_a, .int t_wanted, .int t_count, .int t_fresh])), (t_kind_a, .inl (cI, 10, .inl t_kind)), (t_width_a, .inl (cI, 10, .inl t_width))]) (ws1 := [(t, .inr (9, [.int t_thrown, .ref t_tape_a, .int t_taped, .int t_fault, .int t_faultPlace, .int t_at, .int t_rules, .ref t_firstPart_a, .ref t_partMany_a, .ref t_rulePlace_a, .int t_parts, .ref t_sort_a, .ref t_predicate_a, .ref t_firstTerm_a, .ref t_termMany_a, .ref t_partPlace_a, .int t_terms, .ref t_term_a, .ref t_depends_a, .int t_ruleCount, .ref t_partCount_a, .ref t_partSort_a, .ref t_partPredicate_a, .ref t_partTerms_a, .ref t_termOf_a, .ref t_variableCount_a, .ref t_kind_a, .ref t_width_a, .ref t_stratum_a, .ref t_holds_a, .ref t_held_a, .ref t_kept_a, .int t_changes, .int t_staged, .ref t_stage_a, .int t_logged, .int t_safe, .ref t_logs_a, .ref t_value_a, .int t_wanted, .int t_count, .int t_fresh])), (t_kind_a, .inl (cI, 10, .inl t_kind)), (t_width_a, .inl (cI, 10, .inl t_width))]) [] [0, 1, 2] [0, 1, 2] (K_Model_isConstant l D cB cI cZ cJ x3 z16 hz16) ms_X9_isConstant km_X9_247 hx hb hml hown hts hK hP hD hS hA hl.1 ⟨Nat.zero_le _, Nat.zero_le _⟩ dX9_place_62 rfl rfl (Nat.le_of_ble_eq_true rfl) ⟨⟨rfl, rfl⟩, Nat.le_of_ble_eq_true rfl, Nat.le_of_ble_eq_true rfl⟩ rfl rfl (by decide) rfl (fun H locs hP hD hS => ?_)
                have hP : va_P D vwCl [(t, .inr (9, [.int t_thrown, .ref t_tape_a, .int t_taped, .int t_fault, .int t_faultPlace, .int t_at, .int t_rules, .ref t_firstPart_a, .ref t_partMany_a, .ref t_rulePlace_a, .int t_parts, .ref t_sort_a, .ref t_predicate_a, .ref t_firstTerm_a, .ref t_termMany_a, .ref t_partPlace_a, .int t_terms, .ref t_term_a, .ref t_depends_a, .int t_ruleCount, .ref t_partCount_a, .ref t_partSort_a, .ref t_partPredicate_a, .ref t_partTerms_a, .ref t_termOf_a, .ref t_variableCount_a, .ref t_kind_a, .ref t_width_a, .ref t_stratum_a, .ref t_holds_a, .ref t_held_a, .ref t_kept_a, .int t_changes, .int t_staged, .ref t_stage_a, .int t_logged, .int t_safe, .ref t_logs_a, .ref t_value_a, .int t_wanted, .int t_count, .int t_fresh])), (t_kind_a, .inl (cI, 10, .inl t_kind)), (t_width_a, .inl (cI, 10, .inl t_width))] H := hP
                have hD : va_D A [(t, .inr (9, [.int t_thrown, .ref t_tape_a, .int t_taped, .int t_fault, .int t_faultPlace, .int t_at, .int t_rules, .ref t_firstPart_a, .ref t_partMany_a, .ref t_rulePlace_a, .int t_parts, .ref t_sort_a, .ref t_predicate_a, .ref t_firstTerm_a, .ref t_termMany_a, .ref t_partPlace_a, .int t_terms, .ref t_term_a, .ref t_depends_a, .int t_ruleCount, .ref t_partCount_a, .ref t_partSort_a, .ref t_partPredicate_a, .ref t_partTerms_a, .ref t_termOf_a, .ref t_variableCount_a, .ref t_kind_a, .ref t_width_a, .ref t_stratum_a, .ref t_holds_a, .ref t_held_a, .ref t_kept_a, .int t_changes, .int t_staged, .ref t_stage_a, .int t_logged, .int t_safe, .ref t_logs_a, .ref t_value_a, .int t_wanted, .int t_count, .int t_fresh])), (t_kind_a, .inl (cI, 10, .inl t_kind)), (t_width_a, .inl (cI, 10, .inl t_width))] := hD
                refine lv_if_ne (tgt := 70) hx hb dX9_place_65 (by decide) (fun hc => ?_) (fun hc => ?_)
                · have hm := if_f hc hm
                  refine lv_sipush (v := (1728 : Int32)) hx hb dX9_place_70 (by decide) ?_
                  refine lv_iload_n hx hb dX9_place_73 rfl (lv_at hl 2 rfl) ?_
                  refine lv_imul hx hb dX9_place_74 ?_
                  refine lv_iload hx hb dX9_place_75 (lv_at hl 0 rfl) ?_
                  refine lv_if_ne (tgt := 84) hx hb dX9_place_77 (by decide) (fun hc => ?_) (fun hc => ?_)
                  · have hm := if_f hc hm
                    refine lv_iload hx hb dX9_place_84 (lv_at hl 0 rfl) ?_
                    refine lv_iconst (v := (1 : Int32)) hx hb dX9_place_86 (by decide) ?_
                    refine lv_icmp_ne (tgt := 94) hx hb dX9_place_87 (by decide) (fun hc => ?_) (fun hc => ?_)
                    · have hm := if_f hc hm
                      refine lv_iload hx hb dX9_place_94 (lv_at hl 0 rfl) ?_
                      refine lv_iconst (v := (2 : Int32)) hx hb dX9_place_96 (by decide) ?_
                      refine lv_icmp_ne (tgt := 109) hx hb dX9_place_97 (by decide) (fun hc => ?_) (fun hc => ?_)
                      · have hm := if_f hc hm
                        refine lv_bipush (v := (12 : Int32)) hx hb dX9_place_109 (by decide) ?_
                        refine lv_iload_n hx hb dX9_place_111 rfl (lv_at hl 3 rfl) ?_
                        refine lv_imul hx hb dX9_place_112 ?_
                        refine lv_iload_n hx hb dX9_place_113 rfl (lv_at hl 4 rfl) ?_
                        refine lv_iadd hx hb dX9_place_114 ?_
                        refine lv_bipush (v := (12 : Int32)) hx hb dX9_place_115 (by decide) ?_
                        refine lv_imul hx hb dX9_place_117 ?_
                        refine lv_iload hx hb dX9_place_118 (lv_at hl 5 rfl) ?_
                        refine lv_iadd hx hb dX9_place_120 ?_
                        refine lv_topi (fun v17 ev17 => ?_)
                        have hm := lt_at ev17 hm
                        refine lv_iadd hx hb dX9_place_121 ?_
                        have ho := Option.some.inj hm
                        exact k_iret hx hb hr hlocks hK hP hD hS dX9_place_122 hQ (by rw [← ho]) rfl
                      · have hm := if_t hc hm
                        refine lv_bipush (v := (12 : Int32)) hx hb dX9_place_100 (by decide) ?_
                        refine lv_iload_n hx hb dX9_place_102 rfl (lv_at hl 3 rfl) ?_
                        refine lv_imul hx hb dX9_place_103 ?_
                        refine lv_iload_n hx hb dX9_place_104 rfl (lv_at hl 4 rfl) ?_
                        refine lv_iadd hx hb dX9_place_105 ?_
                        refine lv_goto (tgt := 121) hx hb dX9_place_106 (by decide) ?_
                        refine lv_iadd hx hb dX9_place_121 ?_
                        refine lv_topi (fun v18 ev18 => ?_)
                        have hm := lt_at ev18 hm
                        have ho := Option.some.inj hm
                        exact k_iret hx hb hr hlocks hK hP hD hS dX9_place_122 hQ (by rw [← ho]) rfl
                    · have hm := if_t hc hm
                      refine lv_iload_n hx hb dX9_place_90 rfl (lv_at hl 3 rfl) ?_
                      refine lv_goto (tgt := 121) hx hb dX9_place_91 (by decide) ?_
                      refine lv_iadd hx hb dX9_place_121 ?_
                      have ho := Option.some.inj hm
                      exact k_iret hx hb hr hlocks hK hP hD hS dX9_place_122 hQ (by rw [← ho]) rfl
                  · have hm := if_t hc hm
                    refine lv_iconst (v := (0 : Int32)) hx hb dX9_place_80 (by decide) ?_
                    refine lv_goto (tgt := 121) hx hb dX9_place_81 (by decide) ?_
                    refine lv_iadd hx hb dX9_place_121 ?_
                    have ho := Option.some.inj hm
                    exact k_iret hx hb hr hlocks hK hP hD hS dX9_place_122 hQ (by rw [← ho]) rfl
                · have hm := if_t hc hm
                  refine lv_iconst (v := (-1 : Int32)) hx hb dX9_place_68 (by decide) ?_
                  have ho := Option.some.inj hm
                  exact k_iret hx hb hr hlocks hK hP hD hS dX9_place_69 hQ (by rw [← ho]) rfl
            · have hm := if_f hc hm
              refine lv_iload_n hx hb dX9_place_47 rfl (lv_at hl 4 rfl) ?_
              obtain ⟨z19, hz19, hm⟩ := bd_at hm
              refine k_callS (As := [.int x2]) (rest := []) (wr := [(t, .inr (9, [.int t_thrown, .ref t_tape_a, .int t_taped, .int t_fault, .int t_faultPlace, .int t_at, .int t_rules, .ref t_firstPart_a, .ref t_partMany_a, .ref t_rulePlace_a, .int t_parts, .ref t_sort_a, .ref t_predicate_a, .ref t_firstTerm_a, .ref t_termMany_a, .ref t_partPlace_a, .int t_terms, .ref t_term_a, .ref t_depends_a, .int t_ruleCount, .ref t_partCount_a, .ref t_partSort_a, .ref t_partPredicate_a, .ref t_partTerms_a, .ref t_termOf_a, .ref t_variableCount_a, .ref t_kind_a, .ref t_width_a, .ref t_stratum_a, .ref t_holds_a, .ref t_held_a, .ref t_kept_a, .int t_changes, .int t_staged, .ref t_stage_a, .int t_logged, .int t_safe, .ref t_logs_a, .ref t_value_a, .int t_wanted, .int t_count, .int t_fresh])), (t_kind_a, .inl (cI, 10, .inl t_kind)), (t_width_a, .inl (cI, 10, .inl t_width))]) (ws1 := [(t, .inr (9, [.int t_thrown, .ref t_tape_a, .int t_taped, .int t_fault, .int t_faultPlace, .int t_at, .int t_rules, .ref t_firstPart_a, .ref t_partMany_a, .ref t_rulePlace_a, .int t_parts, .ref t_sort_a, .ref t_predicate_a, .ref t_firstTerm_a, .ref t_termMany_a, .ref t_partPlace_a, .int t_terms, .ref t_term_a, .ref t_depends_a, .int t_ruleCount, .ref t_partCount_a, .ref t_partSort_a, .ref t_partPredicate_a, .ref t_partTerms_a, .ref t_termOf_a, .ref t_variableCount_a, .ref t_kind_a, .ref t_width_a, .ref t_stratum_a, .ref t_holds_a, .ref t_held_a, .ref t_kept_a, .int t_changes, .int t_staged, .ref t_stage_a, .int t_logged, .int t_safe, .ref t_logs_a, .ref t_value_a, .int t_wanted, .int t_count, .int t_fresh])), (t_kind_a, .inl (cI, 10, .inl t_kind)), (t_width_a, .inl (cI, 10, .inl t_width))]) [] [0, 1, 2] [0, 1, 2] (K_Model_isConstant l D cB cI cZ cJ x2 z19 hz19) ms_X9_isConstant km_X9_247 hx hb hml hown hts hK hP hD hS hA hl.1 ⟨Nat.zero_le _, Nat.zero_le _⟩ dX9_place_48 rfl rfl (Nat.le_of_ble_eq_true rfl) ⟨⟨rfl, rfl⟩, Nat.le_of_ble_eq_true rfl, Nat.le_of_ble_eq_true rfl⟩ rfl rfl (by decide) rfl (fun H locs hP hD hS => ?_)
              have hP : va_P D vwCl [(t, .inr (9, [.int t_thrown, .ref t_tape_a, .int t_taped, .int t_fault, .int t_faultPlace, .int t_at, .int t_rules, .ref t_firstPart_a, .ref t_partMany_a, .ref t_rulePlace_a, .int t_parts, .ref t_sort_a, .ref t_predicate_a, .ref t_firstTerm_a, .ref t_termMany_a, .ref t_partPlace_a, .int t_terms, .ref t_term_a, .ref t_depends_a, .int t_ruleCount, .ref t_partCount_a, .ref t_partSort_a, .ref t_partPredicate_a, .ref t_partTerms_a, .ref t_termOf_a, .ref t_variableCount_a, .ref t_kind_a, .ref t_width_a, .ref t_stratum_a, .ref t_holds_a, .ref t_held_a, .ref t_kept_a, .int t_changes, .int t_staged, .ref t_stage_a, .int t_logged, .int t_safe, .ref t_logs_a, .ref t_value_a, .int t_wanted, .int t_count, .int t_fresh])), (t_kind_a, .inl (cI, 10, .inl t_kind)), (t_width_a, .inl (cI, 10, .inl t_width))] H := hP
              have hD : va_D A [(t, .inr (9, [.int t_thrown, .ref t_tape_a, .int t_taped, .int t_fault, .int t_faultPlace, .int t_at, .int t_rules, .ref t_firstPart_a, .ref t_partMany_a, .ref t_rulePlace_a, .int t_parts, .ref t_sort_a, .ref t_predicate_a, .ref t_firstTerm_a, .ref t_termMany_a, .ref t_partPlace_a, .int t_terms, .ref t_term_a, .ref t_depends_a, .int t_ruleCount, .ref t_partCount_a, .ref t_partSort_a, .ref t_partPredicate_a, .ref t_partTerms_a, .ref t_termOf_a, .ref t_variableCount_a, .ref t_kind_a, .ref t_width_a, .ref t_stratum_a, .ref t_holds_a, .ref t_held_a, .ref t_kept_a, .int t_changes, .int t_staged, .ref t_stage_a, .int t_logged, .int t_safe, .ref t_logs_a, .ref t_value_a, .int t_wanted, .int t_count, .int t_fresh])), (t_kind_a, .inl (cI, 10, .inl t_kind)), (t_width_a, .inl (cI, 10, .inl t_width))] := hD
              refine lv_if_eq (tgt := 68) hx hb dX9_place_51 (by decide) (fun hc => ?_) (fun hc => ?_)
              · have hm := if_t hc hm
                refine lv_iconst (v := (-1 : Int32)) hx hb dX9_place_68 (by decide) ?_
                have ho := Option.some.inj hm
                exact k_iret hx hb hr hlocks hK hP hD hS dX9_place_69 hQ (by rw [← ho]) rfl
              · have hm := if_f hc hm
                refine lv_iload hx hb dX9_place_54 (lv_at hl 0 rfl) ?_
                refine lv_iconst (v := (2 : Int32)) hx hb dX9_place_56 (by decide) ?_
                refine lv_icmp_le (tgt := 70) hx hb dX9_place_57 (by decide) (fun hc => ?_) (fun hc => ?_)
                · have hm := if_t hc hm
                  refine lv_sipush (v := (1728 : Int32)) hx hb dX9_place_70 (by decide) ?_
                  refine lv_iload_n hx hb dX9_place_73 rfl (lv_at hl 2 rfl) ?_
                  refine lv_imul hx hb dX9_place_74 ?_
                  refine lv_iload hx hb dX9_place_75 (lv_at hl 0 rfl) ?_
                  refine lv_if_ne (tgt := 84) hx hb dX9_place_77 (by decide) (fun hc => ?_) (fun hc => ?_)
                  · have hm := if_f hc hm
                    refine lv_iload hx hb dX9_place_84 (lv_at hl 0 rfl) ?_
                    refine lv_iconst (v := (1 : Int32)) hx hb dX9_place_86 (by decide) ?_
                    refine lv_icmp_ne (tgt := 94) hx hb dX9_place_87 (by decide) (fun hc => ?_) (fun hc => ?_)
                    · have hm := if_f hc hm
                      refine lv_iload hx hb dX9_place_94 (lv_at hl 0 rfl) ?_
                      refine lv_iconst (v := (2 : Int32)) hx hb dX9_place_96 (by decide) ?_
                      refine lv_icmp_ne (tgt := 109) hx hb dX9_place_97 (by decide) (fun hc => ?_) (fun hc => ?_)
                      · have hm := if_f hc hm
                        refine lv_bipush (v := (12 : Int32)) hx hb dX9_place_109 (by decide) ?_
                        refine lv_iload_n hx hb dX9_place_111 rfl (lv_at hl 3 rfl) ?_
                        refine lv_imul hx hb dX9_place_112 ?_
                        refine lv_iload_n hx hb dX9_place_113 rfl (lv_at hl 4 rfl) ?_
                        refine lv_iadd hx hb dX9_place_114 ?_
                        refine lv_bipush (v := (12 : Int32)) hx hb dX9_place_115 (by decide) ?_
                        refine lv_imul hx hb dX9_place_117 ?_
                        refine lv_iload hx hb dX9_place_118 (lv_at hl 5 rfl) ?_
                        refine lv_iadd hx hb dX9_place_120 ?_
                        refine lv_topi (fun v20 ev20 => ?_)
                        have hm := lt_at ev20 hm
                        refine lv_iadd hx hb dX9_place_121 ?_
                        have ho := Option.some.inj hm
                        exact k_iret hx hb hr hlocks hK hP hD hS dX9_place_122 hQ (by rw [← ho]) rfl
                      · have hm := if_t hc hm
                        refine lv_bipush (v := (12 : Int32)) hx hb dX9_place_100 (by decide) ?_
                        refine lv_iload_n hx hb dX9_place_102 rfl (lv_at hl 3 rfl) ?_
                        refine lv_imul hx hb dX9_place_103 ?_
                        refine lv_iload_n hx hb dX9_place_104 rfl (lv_at hl 4 rfl) ?_
                        refine lv_iadd hx hb dX9_place_105 ?_
                        refine lv_goto (tgt := 121) hx hb dX9_place_106 (by decide) ?_
                        refine lv_iadd hx hb dX9_place_121 ?_
                        refine lv_topi (fun v21 ev21 => ?_)
                        have hm := lt_at ev21 hm
                        have ho := Option.some.inj hm
                        exact k_iret hx hb hr hlocks hK hP hD hS dX9_place_122 hQ (by rw [← ho]) rfl
                    · have hm := if_t hc hm
                      refine lv_iload_n hx hb dX9_place_90 rfl (lv_at hl 3 rfl) ?_
                      refine lv_goto (tgt := 121) hx hb dX9_place_91 (by decide) ?_
                      refine lv_iadd hx hb dX9_place_121 ?_
                      have ho := Option.some.inj hm
                      exact k_iret hx hb hr hlocks hK hP hD hS dX9_place_122 hQ (by rw [← ho]) rfl
                  · have hm := if_t hc hm
                    refine lv_iconst (v := (0 : Int32)) hx hb dX9_place_80 (by decide) ?_
                    refine lv_goto (tgt := 121) hx hb dX9_place_81 (by decide) ?_
                    refine lv_iadd hx hb dX9_place_121 ?_
                    have ho := Option.some.inj hm
                    exact k_iret hx hb hr hlocks hK hP hD hS dX9_place_122 hQ (by rw [← ho]) rfl
                · have hm := if_f hc hm
                  refine lv_iload hx hb dX9_place_60 (lv_at hl 5 rfl) ?_
                  obtain ⟨z22, hz22, hm⟩ := bd_at hm
                  refine k_callS (As := [.int x3]) (rest := []) (wr := [(t, .inr (9, [.int t_thrown, .ref t_tape_a, .int t_taped, .int t_fault, .int t_faultPlace, .int t_at, .int t_rules, .ref t_firstPart_a, .ref t_partMany_a, .ref t_rulePlace_a, .int t_parts, .ref t_sort_a, .ref t_predicate_a, .ref t_firstTerm_a, .ref t_termMany_a, .ref t_partPlace_a, .int t_terms, .ref t_term_a, .ref t_depends_a, .int t_ruleCount, .ref t_partCount_a, .ref t_partSort_a, .ref t_partPredicate_a, .ref t_partTerms_a, .ref t_termOf_a, .ref t_variableCount_a, .ref t_kind_a, .ref t_width_a, .ref t_stratum_a, .ref t_holds_a, .ref t_held_a, .ref t_kept_a, .int t_changes, .int t_staged, .ref t_stage_a, .int t_logged, .int t_safe, .ref t_logs_a, .ref t_value_a, .int t_wanted, .int t_count, .int t_fresh])), (t_kind_a, .inl (cI, 10, .inl t_kind)), (t_width_a, .inl (cI, 10, .inl t_width))]) (ws1 := [(t, .inr (9, [.int t_thrown, .ref t_tape_a, .int t_taped, .int t_fault, .int t_faultPlace, .int t_at, .int t_rules, .ref t_firstPart_a, .ref t_partMany_a, .ref t_rulePlace_a, .int t_parts, .ref t_sort_a, .ref t_predicate_a, .ref t_firstTerm_a, .ref t_termMany_a, .ref t_partPlace_a, .int t_terms, .ref t_term_a, .ref t_depends_a, .int t_ruleCount, .ref t_partCount_a, .ref t_partSort_a, .ref t_partPredicate_a, .ref t_partTerms_a, .ref t_termOf_a, .ref t_variableCount_a, .ref t_kind_a, .ref t_width_a, .ref t_stratum_a, .ref t_holds_a, .ref t_held_a, .ref t_kept_a, .int t_changes, .int t_staged, .ref t_stage_a, .int t_logged, .int t_safe, .ref t_logs_a, .ref t_value_a, .int t_wanted, .int t_count, .int t_fresh])), (t_kind_a, .inl (cI, 10, .inl t_kind)), (t_width_a, .inl (cI, 10, .inl t_width))]) [] [0, 1, 2] [0, 1, 2] (K_Model_isConstant l D cB cI cZ cJ x3 z22 hz22) ms_X9_isConstant km_X9_247 hx hb hml hown hts hK hP hD hS hA hl.1 ⟨Nat.zero_le _, Nat.zero_le _⟩ dX9_place_62 rfl rfl (Nat.le_of_ble_eq_true rfl) ⟨⟨rfl, rfl⟩, Nat.le_of_ble_eq_true rfl, Nat.le_of_ble_eq_true rfl⟩ rfl rfl (by decide) rfl (fun H locs hP hD hS => ?_)
                  have hP : va_P D vwCl [(t, .inr (9, [.int t_thrown, .ref t_tape_a, .int t_taped, .int t_fault, .int t_faultPlace, .int t_at, .int t_rules, .ref t_firstPart_a, .ref t_partMany_a, .ref t_rulePlace_a, .int t_parts, .ref t_sort_a, .ref t_predicate_a, .ref t_firstTerm_a, .ref t_termMany_a, .ref t_partPlace_a, .int t_terms, .ref t_term_a, .ref t_depends_a, .int t_ruleCount, .ref t_partCount_a, .ref t_partSort_a, .ref t_partPredicate_a, .ref t_partTerms_a, .ref t_termOf_a, .ref t_variableCount_a, .ref t_kind_a, .ref t_width_a, .ref t_stratum_a, .ref t_holds_a, .ref t_held_a, .ref t_kept_a, .int t_changes, .int t_staged, .ref t_stage_a, .int t_logged, .int t_safe, .ref t_logs_a, .ref t_value_a, .int t_wanted, .int t_count, .int t_fresh])), (t_kind_a, .inl (cI, 10, .inl t_kind)), (t_width_a, .inl (cI, 10, .inl t_width))] H := hP
                  have hD : va_D A [(t, .inr (9, [.int t_thrown, .ref t_tape_a, .int t_taped, .int t_fault, .int t_faultPlace, .int t_at, .int t_rules, .ref t_firstPart_a, .ref t_partMany_a, .ref t_rulePlace_a, .int t_parts, .ref t_sort_a, .ref t_predicate_a, .ref t_firstTerm_a, .ref t_termMany_a, .ref t_partPlace_a, .int t_terms, .ref t_term_a, .ref t_depends_a, .int t_ruleCount, .ref t_partCount_a, .ref t_partSort_a, .ref t_partPredicate_a, .ref t_partTerms_a, .ref t_termOf_a, .ref t_variableCount_a, .ref t_kind_a, .ref t_width_a, .ref t_stratum_a, .ref t_holds_a, .ref t_held_a, .ref t_kept_a, .int t_changes, .int t_staged, .ref t_stage_a, .int t_logged, .int t_safe, .ref t_logs_a, .ref t_value_a, .int t_wanted, .int t_count, .int t_fresh])), (t_kind_a, .inl (cI, 10, .inl t_kind)), (t_width_a, .inl (cI, 10, .inl t_width))] := hD
                  refine lv_if_ne (tgt := 70) hx hb dX9_place_65 (by decide) (fun hc => ?_) (fun hc => ?_)
                  · have hm := if_f hc hm
                    refine lv_sipush (v := (1728 : Int32)) hx hb dX9_place_70 (by decide) ?_
                    refine lv_iload_n hx hb dX9_place_73 rfl (lv_at hl 2 rfl) ?_
                    refine lv_imul hx hb dX9_place_74 ?_
                    refine lv_iload hx hb dX9_place_75 (lv_at hl 0 rfl) ?_
                    refine lv_if_ne (tgt := 84) hx hb dX9_place_77 (by decide) (fun hc => ?_) (fun hc => ?_)
                    · have hm := if_f hc hm
                      refine lv_iload hx hb dX9_place_84 (lv_at hl 0 rfl) ?_
                      refine lv_iconst (v := (1 : Int32)) hx hb dX9_place_86 (by decide) ?_
                      refine lv_icmp_ne (tgt := 94) hx hb dX9_place_87 (by decide) (fun hc => ?_) (fun hc => ?_)
                      · have hm := if_f hc hm
                        refine lv_iload hx hb dX9_place_94 (lv_at hl 0 rfl) ?_
                        refine lv_iconst (v := (2 : Int32)) hx hb dX9_place_96 (by decide) ?_
                        refine lv_icmp_ne (tgt := 109) hx hb dX9_place_97 (by decide) (fun hc => ?_) (fun hc => ?_)
                        · have hm := if_f hc hm
                          refine lv_bipush (v := (12 : Int32)) hx hb dX9_place_109 (by decide) ?_
                          refine lv_iload_n hx hb dX9_place_111 rfl (lv_at hl 3 rfl) ?_
                          refine lv_imul hx hb dX9_place_112 ?_
                          refine lv_iload_n hx hb dX9_place_113 rfl (lv_at hl 4 rfl) ?_
                          refine lv_iadd hx hb dX9_place_114 ?_
                          refine lv_bipush (v := (12 : Int32)) hx hb dX9_place_115 (by decide) ?_
                          refine lv_imul hx hb dX9_place_117 ?_
                          refine lv_iload hx hb dX9_place_118 (lv_at hl 5 rfl) ?_
                          refine lv_iadd hx hb dX9_place_120 ?_
                          refine lv_topi (fun v23 ev23 => ?_)
                          have hm := lt_at ev23 hm
                          refine lv_iadd hx hb dX9_place_121 ?_
                          have ho := Option.some.inj hm
                          exact k_iret hx hb hr hlocks hK hP hD hS dX9_place_122 hQ (by rw [← ho]) rfl
                        · have hm := if_t hc hm
                          refine lv_bipush (v := (12 : Int32)) hx hb dX9_place_100 (by decide) ?_
                          refine lv_iload_n hx hb dX9_place_102 rfl (lv_at hl 3 rfl) ?_
                          refine lv_imul hx hb dX9_place_103 ?_
                          refine lv_iload_n hx hb dX9_place_104 rfl (lv_at hl 4 rfl) ?_
                          refine lv_iadd hx hb dX9_place_105 ?_
                          refine lv_goto (tgt := 121) hx hb dX9_place_106 (by decide) ?_
                          refine lv_iadd hx hb dX9_place_121 ?_
                          refine lv_topi (fun v24 ev24 => ?_)
                          have hm := lt_at ev24 hm
                          have ho := Option.some.inj hm
                          exact k_iret hx hb hr hlocks hK hP hD hS dX9_place_122 hQ (by rw [← ho]) rfl
                      · have hm := if_t hc hm
                        refine lv_iload_n hx hb dX9_place_90 rfl (lv_at hl 3 rfl) ?_
                        refine lv_goto (tgt := 121) hx hb dX9_place_91 (by decide) ?_
                        refine lv_iadd hx hb dX9_place_121 ?_
                        have ho := Option.some.inj hm
                        exact k_iret hx hb hr hlocks hK hP hD hS dX9_place_122 hQ (by rw [← ho]) rfl
                    · have hm := if_t hc hm
                      refine lv_iconst (v := (0 : Int32)) hx hb dX9_place_80 (by decide) ?_
                      refine lv_goto (tgt := 121) hx hb dX9_place_81 (by decide) ?_
                      refine lv_iadd hx hb dX9_place_121 ?_
                      have ho := Option.some.inj hm
                      exact k_iret hx hb hr hlocks hK hP hD hS dX9_place_122 hQ (by rw [← ho]) rfl
                  · have hm := if_t hc hm
                    refine lv_iconst (v := (-1 : Int32)) hx hb dX9_place_68 (by decide) ?_
                    have ho := Option.some.inj hm
                    exact k_iret hx hb hr hlocks hK hP hD hS dX9_place_69 hQ (by rw [← ho]) rfl
      · have hm := if_t hc hm
        refine lv_iconst (v := (-1 : Int32)) hx hb dX9_place_19 (by decide) ?_
        have ho := Option.some.inj hm
        exact k_iret hx hb hr hlocks hK hP hD hS dX9_place_20 hQ (by rw [← ho]) rfl
noncomputable def M_Model_stage (t_kind : Nat → Int32) (t_staged : Int32) (t_stage : Nat → Int32) (x0 : Int32) (x1 : Int32) : Option ((Int32) × (Int32) × (Nat → Int32)) := if x0 = (-1 : Int32) then (some ((0 : Int32), t_staged, t_stage)) else (gd_ (x0 / (1728 : Int32)) 10 <| lt_ ((t_kind (x0 / (1728 : Int32)).toNatClampNeg)) fun v1 => if v1 = (1 : Int32) then (if t_staged = (64 : Int32) then (some ((0 : Int32), t_staged, t_stage)) else (if x1 = 0 then (gd_ t_staged 64 <| lt_ (upd t_stage t_staged.toNatClampNeg (((2 : Int32) * x0) + (0 : Int32))) fun f2 => lt_ ((t_staged + (1 : Int32))) fun v3 => some ((1 : Int32), v3, f2)) else (gd_ t_staged 64 <| lt_ (upd t_stage t_staged.toNatClampNeg (((2 : Int32) * x0) + (1 : Int32))) fun f4 => lt_ ((t_staged + (1 : Int32))) fun v5 => some ((1 : Int32), v5, f4)))) else (some ((0 : Int32), t_staged, t_stage)))
set_option maxRecDepth 100000 in
set_option maxHeartbeats 4000000 in
theorem K_Model_stage (l : Launch) (D : va_G) (cB cI cZ cJ : ClassId) (t : Nat) (t_tape_a : Nat) (t_firstPart_a : Nat) (t_partMany_a : Nat) (t_rulePlace_a : Nat) (t_sort_a : Nat) (t_predicate_a : Nat) (t_firstTerm_a : Nat) (t_termMany_a : Nat) (t_partPlace_a : Nat) (t_term_a : Nat) (t_depends_a : Nat) (t_partCount_a : Nat) (t_partSort_a : Nat) (t_partPredicate_a : Nat) (t_partTerms_a : Nat) (t_termOf_a : Nat) (t_variableCount_a : Nat) (t_kind_a : Nat) (t_width_a : Nat) (t_stratum_a : Nat) (t_holds_a : Nat) (t_held_a : Nat) (t_kept_a : Nat) (t_stage_a : Nat) (t_logs_a : Nat) (t_value_a : Nat) (t_thrown : Int32) (t_taped : Int32) (t_fault : Int32) (t_faultPlace : Int32) (t_at : Int32) (t_rules : Int32) (t_parts : Int32) (t_terms : Int32) (t_ruleCount : Int32) (t_changes : Int32) (t_staged : Int32) (t_logged : Int32) (t_safe : Int32) (t_wanted : Int32) (t_count : Int32) (t_fresh : Int32) (t_kind : Nat → Int32) (t_stage : Nat → Int32) (x0 : Int32) (x1 : Int32) (out : (Int32) × (Int32) × (Nat → Int32)) (hm : M_Model_stage t_kind t_staged t_stage x0 x1 = some out) : KC l yX9_stage cX9_stage 3 (some .boolean) { frames := 0, cells := 0, slots := 0, locals := 0 } D (kTy cB cI cZ cJ) [.ref t, .int x0, .int x1] [(t, .inr (9, [.int t_thrown, .ref t_tape_a, .int t_taped, .int t_fault, .int t_faultPlace, .int t_at, .int t_rules, .ref t_firstPart_a, .ref t_partMany_a, .ref t_rulePlace_a, .int t_parts, .ref t_sort_a, .ref t_predicate_a, .ref t_firstTerm_a, .ref t_termMany_a, .ref t_partPlace_a, .int t_terms, .ref t_term_a, .ref t_depends_a, .int t_ruleCount, .ref t_partCount_a, .ref t_partSort_a, .ref t_partPredicate_a, .ref t_partTerms_a, .ref t_termOf_a, .ref t_variableCount_a, .ref t_kind_a, .ref t_width_a, .ref t_stratum_a, .ref t_holds_a, .ref t_held_a, .ref t_kept_a, .int t_changes, .int t_staged, .ref t_stage_a, .int t_logged, .int t_safe, .ref t_logs_a, .ref t_value_a, .int t_wanted, .int t_count, .int t_fresh])), (t_kind_a, .inl (cI, 10, .inl t_kind)), (t_stage_a, .inl (cI, 64, .inl t_stage))] (some (.int out.1)) [(t, .inr (9, [.int t_thrown, .ref t_tape_a, .int t_taped, .int t_fault, .int t_faultPlace, .int t_at, .int t_rules, .ref t_firstPart_a, .ref t_partMany_a, .ref t_rulePlace_a, .int t_parts, .ref t_sort_a, .ref t_predicate_a, .ref t_firstTerm_a, .ref t_termMany_a, .ref t_partPlace_a, .int t_terms, .ref t_term_a, .ref t_depends_a, .int t_ruleCount, .ref t_partCount_a, .ref t_partSort_a, .ref t_partPredicate_a, .ref t_partTerms_a, .ref t_termOf_a, .ref t_variableCount_a, .ref t_kind_a, .ref t_width_a, .ref t_stratum_a, .ref t_holds_a, .ref t_held_a, .ref t_kept_a, .int t_changes, .int out.2.1, .ref t_stage_a, .int t_logged, .int t_safe, .ref t_logs_a, .ref t_value_a, .int t_wanted, .int t_count, .int t_fresh])), (t_kind_a, .inl (cI, 10, .inl t_kind)), (t_stage_a, .inl (cI, 64, .inl out.2.2))] := by
  refine KC.of (by decide +kernel) (Nat.le_of_ble_eq_true rfl) ?_
  intro p e s m below meth c A ls args Q hQ CX hA hK hP hD hl
  obtain ⟨hx, hb, hr, hml, hown, hts, hlocks⟩ := CX
  have hown : s.vm.findClass RX9 = some m.cls := hown
  have hS : va_S A s.heap s.heap [] := va_S.rf
  have hl : lv_has ls 3 [(0, .ref t), (1, .int x0), (2, .int x1)] := hl
  unfold M_Model_stage at hm
  obtain ⟨H, eH⟩ : ∃ H, H = s.heap := ⟨_, rfl⟩
  obtain ⟨locs, el⟩ : ∃ x : List Loc, x = [] := ⟨_, rfl⟩
  have hP : va_P D vwCl [(t, .inr (9, [.int t_thrown, .ref t_tape_a, .int t_taped, .int t_fault, .int t_faultPlace, .int t_at, .int t_rules, .ref t_firstPart_a, .ref t_partMany_a, .ref t_rulePlace_a, .int t_parts, .ref t_sort_a, .ref t_predicate_a, .ref t_firstTerm_a, .ref t_termMany_a, .ref t_partPlace_a, .int t_terms, .ref t_term_a, .ref t_depends_a, .int t_ruleCount, .ref t_partCount_a, .ref t_partSort_a, .ref t_partPredicate_a, .ref t_partTerms_a, .ref t_termOf_a, .ref t_variableCount_a, .ref t_kind_a, .ref t_width_a, .ref t_stratum_a, .ref t_holds_a, .ref t_held_a, .ref t_kept_a, .int t_changes, .int t_staged, .ref t_stage_a, .int t_logged, .int t_safe, .ref t_logs_a, .ref t_value_a, .int t_wanted, .int t_count, .int t_fresh])), (t_kind_a, .inl (cI, 10, .inl t_kind)), (t_stage_a, .inl (cI, 64, .inl t_stage))] H := eH ▸ hP
  have hS : va_S A s.heap H locs := by rw [eH, el]; exact hS
  suffices hW : W p l e { frames := 0, cells := 0, slots := 0, locals := 0 } s m args below meth c H locs 0 0 Q (F0 m 0 ls []) by rw [eH, el] at hW; exact hW
  clear eH el
  refine lv_iload_n hx hb dX9_stage_0 rfl (lv_at hl 1 rfl) ?_
  refine lv_iconst (v := (-1 : Int32)) hx hb dX9_stage_1 (by decide) ?_
  refine lv_icmp_eq (tgt := 28) hx hb dX9_stage_2 (by decide) (fun hc => ?_) (fun hc => ?_)
  · have hm := if_t hc hm
    refine lv_iconst (v := (0 : Int32)) hx hb dX9_stage_28 (by decide) ?_
    have ho := Option.some.inj hm
    exact k_zret (by decide +kernel) hx hb hr hlocks hK hP hD hS dX9_stage_29 hQ (by rw [← ho]) (by rw [← ho])
  · have hm := if_f hc hm
    refine lv_aload_n hx hb dX9_stage_5 rfl (lv_at hl 0 rfl) ?_
    refine va_get (D := D) (ci := 9) (v := .ref t_kind_a) (C := RX9) (T := TX9) (N := 42) hx hb hts in_X9 hown hK hP 0 rfl rfl 26 (by decide) (hts _ kf_X9_62) (fun _ h9 => h9) rfl dX9_stage_6 ?_
    refine lv_iload_n hx hb dX9_stage_9 rfl (lv_at hl 1 rfl) ?_
    refine lv_sipush (v := (1728 : Int32)) hx hb dX9_stage_10 (by decide) ?_
    refine lv_idiv hx hb dX9_stage_13 (by decide) ?_
    refine va_iald hx hb hK hP 1 1 rfl rfl (gd_in hm) dX9_stage_14 ?_
    have hm := gd_go hm
    refine lv_topi (fun v1 ev1 => ?_)
    have hm := lt_at ev1 hm
    refine lv_iconst (v := (1 : Int32)) hx hb dX9_stage_15 (by decide) ?_
    refine lv_icmp_ne (tgt := 28) hx hb dX9_stage_16 (by decide) (fun hc => ?_) (fun hc => ?_)
    · have hm := if_f hc hm
      refine lv_iconst (v := (0 : Int32)) hx hb dX9_stage_28 (by decide) ?_
      have ho := Option.some.inj hm
      exact k_zret (by decide +kernel) hx hb hr hlocks hK hP hD hS dX9_stage_29 hQ (by rw [← ho]) (by rw [← ho])
    · have hm := if_t hc hm
      refine lv_aload_n hx hb dX9_stage_19 rfl (lv_at hl 0 rfl) ?_
      refine va_get (D := D) (ci := 9) (v := .int t_staged) (C := RX9) (T := TX9) (N := 42) hx hb hts in_X9 hown hK hP 0 rfl rfl 33 (by decide) (hts _ kf_X9_193) (fun _ h9 => h9) rfl dX9_stage_20 ?_
      refine lv_bipush (v := (64 : Int32)) hx hb dX9_stage_23 (by decide) ?_
      refine lv_icmp_ne (tgt := 30) hx hb dX9_stage_25 (by decide) (fun hc => ?_) (fun hc => ?_)
      · have hm := if_f hc hm
        refine lv_aload_n hx hb dX9_stage_30 rfl (lv_at hl 0 rfl) ?_
        refine va_get (D := D) (ci := 9) (v := .ref t_stage_a) (C := RX9) (T := TX9) (N := 42) hx hb hts in_X9 hown hK hP 0 rfl rfl 34 (by decide) (hts _ kf_X9_80) (fun _ h9 => h9) rfl dX9_stage_31 ?_
        refine lv_aload_n hx hb dX9_stage_34 rfl (lv_at hl 0 rfl) ?_
        refine va_get (D := D) (ci := 9) (v := .int t_staged) (C := RX9) (T := TX9) (N := 42) hx hb hts in_X9 hown hK hP 0 rfl rfl 33 (by decide) (hts _ kf_X9_193) (fun _ h9 => h9) rfl dX9_stage_35 ?_
        refine lv_iconst (v := (2 : Int32)) hx hb dX9_stage_38 (by decide) ?_
        refine lv_iload_n hx hb dX9_stage_39 rfl (lv_at hl 1 rfl) ?_
        refine lv_imul hx hb dX9_stage_40 ?_
        refine lv_iload_n hx hb dX9_stage_41 rfl (lv_at hl 2 rfl) ?_
        refine lv_if_eq (tgt := 49) hx hb dX9_stage_42 (by decide) (fun hc => ?_) (fun hc => ?_)
        · have hm := if_t hc hm
          refine lv_iconst (v := (0 : Int32)) hx hb dX9_stage_49 (by decide) ?_
          refine lv_iadd hx hb dX9_stage_50 ?_
          refine k_iast hx hb hK hP hD hS 2 1 rfl rfl (gd_in hm) dX9_stage_51 (fun f2 ef2 H locs hP hD hS => ?_)
          have hm := lt_at ef2 (gd_go hm)
          have hP : va_P D vwCl [(t, .inr (9, [.int t_thrown, .ref t_tape_a, .int t_taped, .int t_fault, .int t_faultPlace, .int t_at, .int t_rules, .ref t_firstPart_a, .ref t_partMany_a, .ref t_rulePlace_a, .int t_parts, .ref t_sort_a, .ref t_predicate_a, .ref t_firstTerm_a, .ref t_termMany_a, .ref t_partPlace_a, .int t_terms, .ref t_term_a, .ref t_depends_a, .int t_ruleCount, .ref t_partCount_a, .ref t_partSort_a, .ref t_partPredicate_a, .ref t_partTerms_a, .ref t_termOf_a, .ref t_variableCount_a, .ref t_kind_a, .ref t_width_a, .ref t_stratum_a, .ref t_holds_a, .ref t_held_a, .ref t_kept_a, .int t_changes, .int t_staged, .ref t_stage_a, .int t_logged, .int t_safe, .ref t_logs_a, .ref t_value_a, .int t_wanted, .int t_count, .int t_fresh])), (t_kind_a, .inl (cI, 10, .inl t_kind)), (t_stage_a, .inl (cI, 64, .inl f2))] H := hP
          have hD : va_D A [(t, .inr (9, [.int t_thrown, .ref t_tape_a, .int t_taped, .int t_fault, .int t_faultPlace, .int t_at, .int t_rules, .ref t_firstPart_a, .ref t_partMany_a, .ref t_rulePlace_a, .int t_parts, .ref t_sort_a, .ref t_predicate_a, .ref t_firstTerm_a, .ref t_termMany_a, .ref t_partPlace_a, .int t_terms, .ref t_term_a, .ref t_depends_a, .int t_ruleCount, .ref t_partCount_a, .ref t_partSort_a, .ref t_partPredicate_a, .ref t_partTerms_a, .ref t_termOf_a, .ref t_variableCount_a, .ref t_kind_a, .ref t_width_a, .ref t_stratum_a, .ref t_holds_a, .ref t_held_a, .ref t_kept_a, .int t_changes, .int t_staged, .ref t_stage_a, .int t_logged, .int t_safe, .ref t_logs_a, .ref t_value_a, .int t_wanted, .int t_count, .int t_fresh])), (t_kind_a, .inl (cI, 10, .inl t_kind)), (t_stage_a, .inl (cI, 64, .inl f2))] := hD
          refine lv_aload_n hx hb dX9_stage_52 rfl (lv_at hl 0 rfl) ?_
          refine lv_dup hx hb dX9_stage_53 rfl ?_
          refine va_get (D := D) (ci := 9) (v := .int t_staged) (C := RX9) (T := TX9) (N := 42) hx hb hts in_X9 hown hK hP 0 rfl rfl 33 (by decide) (hts _ kf_X9_193) (fun _ h9 => h9) rfl dX9_stage_54 ?_
          refine lv_iconst (v := (1 : Int32)) hx hb dX9_stage_57 (by decide) ?_
          refine lv_iadd hx hb dX9_stage_58 ?_
          refine lv_topi (fun v3 ev3 => ?_)
          have hm := lt_at ev3 hm
          refine va_put (D := D) (ci := 9) (v := .int v3) (ty := .int) (C := RX9) (T := TX9) (N := 42) hx hb hts in_X9 tyX9 tyX9_ok nmX9 hown hK hP hD hS 0 rfl rfl 33 (by decide) (hts _ kf_X9_193) (fun _ h9 => h9) rfl (by decide +kernel) rfl rfl (Nat.le_of_ble_eq_true rfl) dX9_stage_59 (fun H locs hP hD hS => ?_)
          have hP : va_P D vwCl [(t, .inr (9, [.int t_thrown, .ref t_tape_a, .int t_taped, .int t_fault, .int t_faultPlace, .int t_at, .int t_rules, .ref t_firstPart_a, .ref t_partMany_a, .ref t_rulePlace_a, .int t_parts, .ref t_sort_a, .ref t_predicate_a, .ref t_firstTerm_a, .ref t_termMany_a, .ref t_partPlace_a, .int t_terms, .ref t_term_a, .ref t_depends_a, .int t_ruleCount, .ref t_partCount_a, .ref t_partSort_a, .ref t_partPredicate_a, .ref t_partTerms_a, .ref t_termOf_a, .ref t_variableCount_a, .ref t_kind_a, .ref t_width_a, .ref t_stratum_a, .ref t_holds_a, .ref t_held_a, .ref t_kept_a, .int t_changes, .int v3, .ref t_stage_a, .int t_logged, .int t_safe, .ref t_logs_a, .ref t_value_a, .int t_wanted, .int t_count, .int t_fresh])), (t_kind_a, .inl (cI, 10, .inl t_kind)), (t_stage_a, .inl (cI, 64, .inl f2))] H := hP
          have hD : va_D A [(t, .inr (9, [.int t_thrown, .ref t_tape_a, .int t_taped, .int t_fault, .int t_faultPlace, .int t_at, .int t_rules, .ref t_firstPart_a, .ref t_partMany_a, .ref t_rulePlace_a, .int t_parts, .ref t_sort_a, .ref t_predicate_a, .ref t_firstTerm_a, .ref t_termMany_a, .ref t_partPlace_a, .int t_terms, .ref t_term_a, .ref t_depends_a, .int t_ruleCount, .ref t_partCount_a, .ref t_partSort_a, .ref t_partPredicate_a, .ref t_partTerms_a, .ref t_termOf_a, .ref t_variableCount_a, .ref t_kind_a, .ref t_width_a, .ref t_stratum_a, .ref t_holds_a, .ref t_held_a, .ref t_kept_a, .int t_changes, .int v3, .ref t_stage_a, .int t_logged, .int t_safe, .ref t_logs_a, .ref t_value_a, .int t_wanted, .int t_count, .int t_fresh])), (t_kind_a, .inl (cI, 10, .inl t_kind)), (t_stage_a, .inl (cI, 64, .inl f2))] := hD
          refine lv_iconst (v := (1 : Int32)) hx hb dX9_stage_62 (by decide) ?_
          have ho := Option.some.inj hm
          exact k_zret (by decide +kernel) hx hb hr hlocks hK hP hD hS dX9_stage_63 hQ (by rw [← ho]) (by rw [← ho])
        · have hm := if_f hc hm
          refine lv_iconst (v := (1 : Int32)) hx hb dX9_stage_45 (by decide) ?_
          refine lv_goto (tgt := 50) hx hb dX9_stage_46 (by decide) ?_
          refine lv_iadd hx hb dX9_stage_50 ?_
          refine k_iast hx hb hK hP hD hS 2 1 rfl rfl (gd_in hm) dX9_stage_51 (fun f4 ef4 H locs hP hD hS => ?_)
          have hm := lt_at ef4 (gd_go hm)
          have hP : va_P D vwCl [(t, .inr (9, [.int t_thrown, .ref t_tape_a, .int t_taped, .int t_fault, .int t_faultPlace, .int t_at, .int t_rules, .ref t_firstPart_a, .ref t_partMany_a, .ref t_rulePlace_a, .int t_parts, .ref t_sort_a, .ref t_predicate_a, .ref t_firstTerm_a, .ref t_termMany_a, .ref t_partPlace_a, .int t_terms, .ref t_term_a, .ref t_depends_a, .int t_ruleCount, .ref t_partCount_a, .ref t_partSort_a, .ref t_partPredicate_a, .ref t_partTerms_a, .ref t_termOf_a, .ref t_variableCount_a, .ref t_kind_a, .ref t_width_a, .ref t_stratum_a, .ref t_holds_a, .ref t_held_a, .ref t_kept_a, .int t_changes, .int t_staged, .ref t_stage_a, .int t_logged, .int t_safe, .ref t_logs_a, .ref t_value_a, .int t_wanted, .int t_count, .int t_fresh])), (t_kind_a, .inl (cI, 10, .inl t_kind)), (t_stage_a, .inl (cI, 64, .inl f4))] H := hP
          have hD : va_D A [(t, .inr (9, [.int t_thrown, .ref t_tape_a, .int t_taped, .int t_fault, .int t_faultPlace, .int t_at, .int t_rules, .ref t_firstPart_a, .ref t_partMany_a, .ref t_rulePlace_a, .int t_parts, .ref t_sort_a, .ref t_predicate_a, .ref t_firstTerm_a, .ref t_termMany_a, .ref t_partPlace_a, .int t_terms, .ref t_term_a, .ref t_depends_a, .int t_ruleCount, .ref t_partCount_a, .ref t_partSort_a, .ref t_partPredicate_a, .ref t_partTerms_a, .ref t_termOf_a, .ref t_variableCount_a, .ref t_kind_a, .ref t_width_a, .ref t_stratum_a, .ref t_holds_a, .ref t_held_a, .ref t_kept_a, .int t_changes, .int t_staged, .ref t_stage_a, .int t_logged, .int t_safe, .ref t_logs_a, .ref t_value_a, .int t_wanted, .int t_count, .int t_fresh])), (t_kind_a, .inl (cI, 10, .inl t_kind)), (t_stage_a, .inl (cI, 64, .inl f4))] := hD
          refine lv_aload_n hx hb dX9_stage_52 rfl (lv_at hl 0 rfl) ?_
          refine lv_dup hx hb dX9_stage_53 rfl ?_
          refine va_get (D := D) (ci := 9) (v := .int t_staged) (C := RX9) (T := TX9) (N := 42) hx hb hts in_X9 hown hK hP 0 rfl rfl 33 (by decide) (hts _ kf_X9_193) (fun _ h9 => h9) rfl dX9_stage_54 ?_
          refine lv_iconst (v := (1 : Int32)) hx hb dX9_stage_57 (by decide) ?_
          refine lv_iadd hx hb dX9_stage_58 ?_
          refine lv_topi (fun v5 ev5 => ?_)
          have hm := lt_at ev5 hm
          refine va_put (D := D) (ci := 9) (v := .int v5) (ty := .int) (C := RX9) (T := TX9) (N := 42) hx hb hts in_X9 tyX9 tyX9_ok nmX9 hown hK hP hD hS 0 rfl rfl 33 (by decide) (hts _ kf_X9_193) (fun _ h9 => h9) rfl (by decide +kernel) rfl rfl (Nat.le_of_ble_eq_true rfl) dX9_stage_59 (fun H locs hP hD hS => ?_)
          have hP : va_P D vwCl [(t, .inr (9, [.int t_thrown, .ref t_tape_a, .int t_taped, .int t_fault, .int t_faultPlace, .int t_at, .int t_rules, .ref t_firstPart_a, .ref t_partMany_a, .ref t_rulePlace_a, .int t_parts, .ref t_sort_a, .ref t_predicate_a, .ref t_firstTerm_a, .ref t_termMany_a, .ref t_partPlace_a, .int t_terms, .ref t_term_a, .ref t_depends_a, .int t_ruleCount, .ref t_partCount_a, .ref t_partSort_a, .ref t_partPredicate_a, .ref t_partTerms_a, .ref t_termOf_a, .ref t_variableCount_a, .ref t_kind_a, .ref t_width_a, .ref t_stratum_a, .ref t_holds_a, .ref t_held_a, .ref t_kept_a, .int t_changes, .int v5, .ref t_stage_a, .int t_logged, .int t_safe, .ref t_logs_a, .ref t_value_a, .int t_wanted, .int t_count, .int t_fresh])), (t_kind_a, .inl (cI, 10, .inl t_kind)), (t_stage_a, .inl (cI, 64, .inl f4))] H := hP
          have hD : va_D A [(t, .inr (9, [.int t_thrown, .ref t_tape_a, .int t_taped, .int t_fault, .int t_faultPlace, .int t_at, .int t_rules, .ref t_firstPart_a, .ref t_partMany_a, .ref t_rulePlace_a, .int t_parts, .ref t_sort_a, .ref t_predicate_a, .ref t_firstTerm_a, .ref t_termMany_a, .ref t_partPlace_a, .int t_terms, .ref t_term_a, .ref t_depends_a, .int t_ruleCount, .ref t_partCount_a, .ref t_partSort_a, .ref t_partPredicate_a, .ref t_partTerms_a, .ref t_termOf_a, .ref t_variableCount_a, .ref t_kind_a, .ref t_width_a, .ref t_stratum_a, .ref t_holds_a, .ref t_held_a, .ref t_kept_a, .int t_changes, .int v5, .ref t_stage_a, .int t_logged, .int t_safe, .ref t_logs_a, .ref t_value_a, .int t_wanted, .int t_count, .int t_fresh])), (t_kind_a, .inl (cI, 10, .inl t_kind)), (t_stage_a, .inl (cI, 64, .inl f4))] := hD
          refine lv_iconst (v := (1 : Int32)) hx hb dX9_stage_62 (by decide) ?_
          have ho := Option.some.inj hm
          exact k_zret (by decide +kernel) hx hb hr hlocks hK hP hD hS dX9_stage_63 hQ (by rw [← ho]) (by rw [← ho])
      · have hm := if_t hc hm
        refine lv_iconst (v := (0 : Int32)) hx hb dX9_stage_28 (by decide) ?_
        have ho := Option.some.inj hm
        exact k_zret (by decide +kernel) hx hb hr hlocks hK hP hD hS dX9_stage_29 hQ (by rw [← ho]) (by rw [← ho])
noncomputable def M_Model_put (t_thrown : Int32) (t_kind : Nat → Int32) (t_width : Nat → Int32) (t_staged : Int32) (t_stage : Nat → Int32) (x0 : Int32) (x1 : Int32) (x2 : Int32) (x3 : Int32) : Option ((Int32) × (Int32) × (Int32) × (Nat → Int32)) := bd_ (M_Model_place t_kind t_width x0 x1 x2 x3) fun z1 => bd_ (M_Model_stage t_kind t_staged t_stage z1 (1 : Int32)) fun z2 => gz_ z2.1 <| some (z2.1, (0 : Int32), z2.2.1, z2.2.2)
set_option maxRecDepth 100000 in
set_option maxHeartbeats 4000000 in
theorem K_Model_put (l : Launch) (D : va_G) (cB cI cZ cJ : ClassId) (t : Nat) (t_tape_a : Nat) (t_firstPart_a : Nat) (t_partMany_a : Nat) (t_rulePlace_a : Nat) (t_sort_a : Nat) (t_predicate_a : Nat) (t_firstTerm_a : Nat) (t_termMany_a : Nat) (t_partPlace_a : Nat) (t_term_a : Nat) (t_depends_a : Nat) (t_partCount_a : Nat) (t_partSort_a : Nat) (t_partPredicate_a : Nat) (t_partTerms_a : Nat) (t_termOf_a : Nat) (t_variableCount_a : Nat) (t_kind_a : Nat) (t_width_a : Nat) (t_stratum_a : Nat) (t_holds_a : Nat) (t_held_a : Nat) (t_kept_a : Nat) (t_stage_a : Nat) (t_logs_a : Nat) (t_value_a : Nat) (t_thrown : Int32) (t_taped : Int32) (t_fault : Int32) (t_faultPlace : Int32) (t_at : Int32) (t_rules : Int32) (t_parts : Int32) (t_terms : Int32) (t_ruleCount : Int32) (t_changes : Int32) (t_staged : Int32) (t_logged : Int32) (t_safe : Int32) (t_wanted : Int32) (t_count : Int32) (t_fresh : Int32) (t_kind : Nat → Int32) (t_width : Nat → Int32) (t_stage : Nat → Int32) (x0 : Int32) (x1 : Int32) (x2 : Int32) (x3 : Int32) (out : (Int32) × (Int32) × (Int32) × (Nat → Int32)) (hm : M_Model_put t_thrown t_kind t_width t_staged t_stage x0 x1 x2 x3 = some out) : KC l yX9_put cX9_put 5 (some .boolean) { frames := 2, cells := 0, slots := 0, locals := 45 } D (kTy cB cI cZ cJ) [.ref t, .int x0, .int x1, .int x2, .int x3] [(t, .inr (9, [.int t_thrown, .ref t_tape_a, .int t_taped, .int t_fault, .int t_faultPlace, .int t_at, .int t_rules, .ref t_firstPart_a, .ref t_partMany_a, .ref t_rulePlace_a, .int t_parts, .ref t_sort_a, .ref t_predicate_a, .ref t_firstTerm_a, .ref t_termMany_a, .ref t_partPlace_a, .int t_terms, .ref t_term_a, .ref t_depends_a, .int t_ruleCount, .ref t_partCount_a, .ref t_partSort_a, .ref t_partPredicate_a, .ref t_partTerms_a, .ref t_termOf_a, .ref t_variableCount_a, .ref t_kind_a, .ref t_width_a, .ref t_stratum_a, .ref t_holds_a, .ref t_held_a, .ref t_kept_a, .int t_changes, .int t_staged, .ref t_stage_a, .int t_logged, .int t_safe, .ref t_logs_a, .ref t_value_a, .int t_wanted, .int t_count, .int t_fresh])), (t_kind_a, .inl (cI, 10, .inl t_kind)), (t_width_a, .inl (cI, 10, .inl t_width)), (t_stage_a, .inl (cI, 64, .inl t_stage))] (some (.int out.1)) [(t, .inr (9, [.int out.2.1, .ref t_tape_a, .int t_taped, .int t_fault, .int t_faultPlace, .int t_at, .int t_rules, .ref t_firstPart_a, .ref t_partMany_a, .ref t_rulePlace_a, .int t_parts, .ref t_sort_a, .ref t_predicate_a, .ref t_firstTerm_a, .ref t_termMany_a, .ref t_partPlace_a, .int t_terms, .ref t_term_a, .ref t_depends_a, .int t_ruleCount, .ref t_partCount_a, .ref t_partSort_a, .ref t_partPredicate_a, .ref t_partTerms_a, .ref t_termOf_a, .ref t_variableCount_a, .ref t_kind_a, .ref t_width_a, .ref t_stratum_a, .ref t_holds_a, .ref t_held_a, .ref t_kept_a, .int t_changes, .int out.2.2.1, .ref t_stage_a, .int t_logged, .int t_safe, .ref t_logs_a, .ref t_value_a, .int t_wanted, .int t_count, .int t_fresh])), (t_kind_a, .inl (cI, 10, .inl t_kind)), (t_width_a, .inl (cI, 10, .inl t_width)), (t_stage_a, .inl (cI, 64, .inl out.2.2.2))] := by
  refine KC.of (by decide +kernel) (Nat.le_of_ble_eq_true rfl) ?_
  intro p e s m below meth c A ls args Q hQ CX hA hK hP hD hl
  obtain ⟨hx, hb, hr, hml, hown, hts, hlocks⟩ := CX
  have hown : s.vm.findClass RX9 = some m.cls := hown
  have hS : va_S A s.heap s.heap [] := va_S.rf
  have hl : lv_has ls 5 [(0, .ref t), (1, .int x0), (2, .int x1), (3, .int x2), (4, .int x3)] := hl
  unfold M_Model_put at hm
  obtain ⟨H, eH⟩ : ∃ H, H = s.heap := ⟨_, rfl⟩
  obtain ⟨locs, el⟩ : ∃ x : List Loc, x = [] := ⟨_, rfl⟩
  have hP : va_P D vwCl [(t, .inr (9, [.int t_thrown, .ref t_tape_a, .int t_taped, .int t_fault, .int t_faultPlace, .int t_at, .int t_rules, .ref t_firstPart_a, .ref t_partMany_a, .ref t_rulePlace_a, .int t_parts, .ref t_sort_a, .ref t_predicate_a, .ref t_firstTerm_a, .ref t_termMany_a, .ref t_partPlace_a, .int t_terms, .ref t_term_a, .ref t_depends_a, .int t_ruleCount, .ref t_partCount_a, .ref t_partSort_a, .ref t_partPredicate_a, .ref t_partTerms_a, .ref t_termOf_a, .ref t_variableCount_a, .ref t_kind_a, .ref t_width_a, .ref t_stratum_a, .ref t_holds_a, .ref t_held_a, .ref t_kept_a, .int t_changes, .int t_staged, .ref t_stage_a, .int t_logged, .int t_safe, .ref t_logs_a, .ref t_value_a, .int t_wanted, .int t_count, .int t_fresh])), (t_kind_a, .inl (cI, 10, .inl t_kind)), (t_width_a, .inl (cI, 10, .inl t_width)), (t_stage_a, .inl (cI, 64, .inl t_stage))] H := eH ▸ hP
  have hS : va_S A s.heap H locs := by rw [eH, el]; exact hS
  suffices hW : W p l e { frames := 2, cells := 0, slots := 0, locals := 45 } s m args below meth c H locs 0 0 Q (F0 m 0 ls []) by rw [eH, el] at hW; exact hW
  clear eH el
  refine lv_aload_n hx hb dX9_put_0 rfl (lv_at hl 0 rfl) ?_
  refine lv_iconst (v := (0 : Int32)) hx hb dX9_put_1 (by decide) ?_
  refine va_put (D := D) (ci := 9) (v := .int (0 : Int32)) (ty := .int) (C := RX9) (T := TX9) (N := 42) hx hb hts in_X9 tyX9 tyX9_ok nmX9 hown hK hP hD hS 0 rfl rfl 0 (by decide) (hts _ kf_X9_89) (fun _ h9 => h9) rfl (by decide +kernel) rfl rfl (Nat.le_of_ble_eq_true rfl) dX9_put_2 (fun H locs hP hD hS => ?_)
  have hP : va_P D vwCl [(t, .inr (9, [.int (0 : Int32), .ref t_tape_a, .int t_taped, .int t_fault, .int t_faultPlace, .int t_at, .int t_rules, .ref t_firstPart_a, .ref t_partMany_a, .ref t_rulePlace_a, .int t_parts, .ref t_sort_a, .ref t_predicate_a, .ref t_firstTerm_a, .ref t_termMany_a, .ref t_partPlace_a, .int t_terms, .ref t_term_a, .ref t_depends_a, .int t_ruleCount, .ref t_partCount_a, .ref t_partSort_a, .ref t_partPredicate_a, .ref t_partTerms_a, .ref t_termOf_a, .ref t_variableCount_a, .ref t_kind_a, .ref t_width_a, .ref t_stratum_a, .ref t_holds_a, .ref t_held_a, .ref t_kept_a, .int t_changes, .int t_staged, .ref t_stage_a, .int t_logged, .int t_safe, .ref t_logs_a, .ref t_value_a, .int t_wanted, .int t_count, .int t_fresh])), (t_kind_a, .inl (cI, 10, .inl t_kind)), (t_width_a, .inl (cI, 10, .inl t_width)), (t_stage_a, .inl (cI, 64, .inl t_stage))] H := hP
  have hD : va_D A [(t, .inr (9, [.int (0 : Int32), .ref t_tape_a, .int t_taped, .int t_fault, .int t_faultPlace, .int t_at, .int t_rules, .ref t_firstPart_a, .ref t_partMany_a, .ref t_rulePlace_a, .int t_parts, .ref t_sort_a, .ref t_predicate_a, .ref t_firstTerm_a, .ref t_termMany_a, .ref t_partPlace_a, .int t_terms, .ref t_term_a, .ref t_depends_a, .int t_ruleCount, .ref t_partCount_a, .ref t_partSort_a, .ref t_partPredicate_a, .ref t_partTerms_a, .ref t_termOf_a, .ref t_variableCount_a, .ref t_kind_a, .ref t_width_a, .ref t_stratum_a, .ref t_holds_a, .ref t_held_a, .ref t_kept_a, .int t_changes, .int t_staged, .ref t_stage_a, .int t_logged, .int t_safe, .ref t_logs_a, .ref t_value_a, .int t_wanted, .int t_count, .int t_fresh])), (t_kind_a, .inl (cI, 10, .inl t_kind)), (t_width_a, .inl (cI, 10, .inl t_width)), (t_stage_a, .inl (cI, 64, .inl t_stage))] := hD
  refine lv_aload_n hx hb dX9_put_5 rfl (lv_at hl 0 rfl) ?_
  refine lv_aload_n hx hb dX9_put_6 rfl (lv_at hl 0 rfl) ?_
  refine lv_iload_n hx hb dX9_put_7 rfl (lv_at hl 1 rfl) ?_
  refine lv_iload_n hx hb dX9_put_8 rfl (lv_at hl 2 rfl) ?_
  refine lv_iload_n hx hb dX9_put_9 rfl (lv_at hl 3 rfl) ?_
  refine lv_iload hx hb dX9_put_10 (lv_at hl 4 rfl) ?_
  obtain ⟨z1, hz1, hm⟩ := bd_at hm
  refine k_callV (As := [.int x0, .int x1, .int x2, .int x3]) (rest := [.ref t]) (wr := [(t_stage_a, .inl (cI, 64, .inl t_stage))]) (ws1 := [(t, .inr (9, [.int (0 : Int32), .ref t_tape_a, .int t_taped, .int t_fault, .int t_faultPlace, .int t_at, .int t_rules, .ref t_firstPart_a, .ref t_partMany_a, .ref t_rulePlace_a, .int t_parts, .ref t_sort_a, .ref t_predicate_a, .ref t_firstTerm_a, .ref t_termMany_a, .ref t_partPlace_a, .int t_terms, .ref t_term_a, .ref t_depends_a, .int t_ruleCount, .ref t_partCount_a, .ref t_partSort_a, .ref t_partPredicate_a, .ref t_partTerms_a, .ref t_termOf_a, .ref t_variableCount_a, .ref t_kind_a, .ref t_width_a, .ref t_stratum_a, .ref t_holds_a, .ref t_held_a, .ref t_kept_a, .int t_changes, .int t_staged, .ref t_stage_a, .int t_logged, .int t_safe, .ref t_logs_a, .ref t_value_a, .int t_wanted, .int t_count, .int t_fresh])), (t_kind_a, .inl (cI, 10, .inl t_kind)), (t_width_a, .inl (cI, 10, .inl t_width)), (t_stage_a, .inl (cI, 64, .inl t_stage))]) [0, 1, 2] [3] [1, 2, 3, 0] (K_Model_place l D cB cI cZ cJ t t_tape_a t_firstPart_a t_partMany_a t_rulePlace_a t_sort_a t_predicate_a t_firstTerm_a t_termMany_a t_partPlace_a t_term_a t_depends_a t_partCount_a t_partSort_a t_partPredicate_a t_partTerms_a t_termOf_a t_variableCount_a t_kind_a t_width_a t_stratum_a t_holds_a t_held_a t_kept_a t_stage_a t_logs_a t_value_a (0 : Int32) t_taped t_fault t_faultPlace t_at t_rules t_parts t_terms t_ruleCount t_changes t_staged t_logged t_safe t_wanted t_count t_fresh t_kind t_width x0 x1 x2 x3 z1 hz1) mf_X9_place km_X9_250 hx hb hml hown hts hK hP hD hS hA hl.1 ⟨Nat.zero_le _, Nat.zero_le _⟩ dX9_put_12 rfl rfl (Nat.le_of_ble_eq_true rfl) ⟨⟨rfl, rfl⟩, Nat.le_of_ble_eq_true rfl, Nat.le_of_ble_eq_true rfl⟩ rfl rfl (by decide) rfl rfl rfl rfl (fun H locs hP hD hS => ?_)
  have hP : va_P D vwCl [(t, .inr (9, [.int (0 : Int32), .ref t_tape_a, .int t_taped, .int t_fault, .int t_faultPlace, .int t_at, .int t_rules, .ref t_firstPart_a, .ref t_partMany_a, .ref t_rulePlace_a, .int t_parts, .ref t_sort_a, .ref t_predicate_a, .ref t_firstTerm_a, .ref t_termMany_a, .ref t_partPlace_a, .int t_terms, .ref t_term_a, .ref t_depends_a, .int t_ruleCount, .ref t_partCount_a, .ref t_partSort_a, .ref t_partPredicate_a, .ref t_partTerms_a, .ref t_termOf_a, .ref t_variableCount_a, .ref t_kind_a, .ref t_width_a, .ref t_stratum_a, .ref t_holds_a, .ref t_held_a, .ref t_kept_a, .int t_changes, .int t_staged, .ref t_stage_a, .int t_logged, .int t_safe, .ref t_logs_a, .ref t_value_a, .int t_wanted, .int t_count, .int t_fresh])), (t_kind_a, .inl (cI, 10, .inl t_kind)), (t_width_a, .inl (cI, 10, .inl t_width)), (t_stage_a, .inl (cI, 64, .inl t_stage))] H := hP
  have hD : va_D A [(t, .inr (9, [.int (0 : Int32), .ref t_tape_a, .int t_taped, .int t_fault, .int t_faultPlace, .int t_at, .int t_rules, .ref t_firstPart_a, .ref t_partMany_a, .ref t_rulePlace_a, .int t_parts, .ref t_sort_a, .ref t_predicate_a, .ref t_firstTerm_a, .ref t_termMany_a, .ref t_partPlace_a, .int t_terms, .ref t_term_a, .ref t_depends_a, .int t_ruleCount, .ref t_partCount_a, .ref t_partSort_a, .ref t_partPredicate_a, .ref t_partTerms_a, .ref t_termOf_a, .ref t_variableCount_a, .ref t_kind_a, .ref t_width_a, .ref t_stratum_a, .ref t_holds_a, .ref t_held_a, .ref t_kept_a, .int t_changes, .int t_staged, .ref t_stage_a, .int t_logged, .int t_safe, .ref t_logs_a, .ref t_value_a, .int t_wanted, .int t_count, .int t_fresh])), (t_kind_a, .inl (cI, 10, .inl t_kind)), (t_width_a, .inl (cI, 10, .inl t_width)), (t_stage_a, .inl (cI, 64, .inl t_stage))] := hD
  refine lv_iconst (v := (1 : Int32)) hx hb dX9_put_15 (by decide) ?_
  obtain ⟨z2, hz2, hm⟩ := bd_at hm
  refine k_callV (As := [.int z1, .int (1 : Int32)]) (rest := []) (wr := [(t_width_a, .inl (cI, 10, .inl t_width))]) (ws1 := [(t, .inr (9, [.int (0 : Int32), .ref t_tape_a, .int t_taped, .int t_fault, .int t_faultPlace, .int t_at, .int t_rules, .ref t_firstPart_a, .ref t_partMany_a, .ref t_rulePlace_a, .int t_parts, .ref t_sort_a, .ref t_predicate_a, .ref t_firstTerm_a, .ref t_termMany_a, .ref t_partPlace_a, .int t_terms, .ref t_term_a, .ref t_depends_a, .int t_ruleCount, .ref t_partCount_a, .ref t_partSort_a, .ref t_partPredicate_a, .ref t_partTerms_a, .ref t_termOf_a, .ref t_variableCount_a, .ref t_kind_a, .ref t_width_a, .ref t_stratum_a, .ref t_holds_a, .ref t_held_a, .ref t_kept_a, .int t_changes, .int z2.2.1, .ref t_stage_a, .int t_logged, .int t_safe, .ref t_logs_a, .ref t_value_a, .int t_wanted, .int t_count, .int t_fresh])), (t_kind_a, .inl (cI, 10, .inl t_kind)), (t_width_a, .inl (cI, 10, .inl t_width)), (t_stage_a, .inl (cI, 64, .inl z2.2.2))]) [0, 1, 3] [2] [1, 2, 0, 3] (K_Model_stage l D cB cI cZ cJ t t_tape_a t_firstPart_a t_partMany_a t_rulePlace_a t_sort_a t_predicate_a t_firstTerm_a t_termMany_a t_partPlace_a t_term_a t_depends_a t_partCount_a t_partSort_a t_partPredicate_a t_partTerms_a t_termOf_a t_variableCount_a t_kind_a t_width_a t_stratum_a t_holds_a t_held_a t_kept_a t_stage_a t_logs_a t_value_a (0 : Int32) t_taped t_fault t_faultPlace t_at t_rules t_parts t_terms t_ruleCount t_changes t_staged t_logged t_safe t_wanted t_count t_fresh t_kind t_stage z1 (1 : Int32) z2 hz2) mf_X9_stage km_X9_254 hx hb hml hown hts hK hP hD hS hA hl.1 ⟨Nat.zero_le _, Nat.zero_le _⟩ dX9_put_16 rfl rfl (Nat.le_of_ble_eq_true rfl) ⟨⟨rfl, rfl⟩, Nat.le_of_ble_eq_true rfl, Nat.le_of_ble_eq_true rfl⟩ rfl rfl (by decide) rfl rfl rfl rfl (fun H locs hP hD hS => ?_)
  have hP : va_P D vwCl [(t, .inr (9, [.int (0 : Int32), .ref t_tape_a, .int t_taped, .int t_fault, .int t_faultPlace, .int t_at, .int t_rules, .ref t_firstPart_a, .ref t_partMany_a, .ref t_rulePlace_a, .int t_parts, .ref t_sort_a, .ref t_predicate_a, .ref t_firstTerm_a, .ref t_termMany_a, .ref t_partPlace_a, .int t_terms, .ref t_term_a, .ref t_depends_a, .int t_ruleCount, .ref t_partCount_a, .ref t_partSort_a, .ref t_partPredicate_a, .ref t_partTerms_a, .ref t_termOf_a, .ref t_variableCount_a, .ref t_kind_a, .ref t_width_a, .ref t_stratum_a, .ref t_holds_a, .ref t_held_a, .ref t_kept_a, .int t_changes, .int z2.2.1, .ref t_stage_a, .int t_logged, .int t_safe, .ref t_logs_a, .ref t_value_a, .int t_wanted, .int t_count, .int t_fresh])), (t_kind_a, .inl (cI, 10, .inl t_kind)), (t_width_a, .inl (cI, 10, .inl t_width)), (t_stage_a, .inl (cI, 64, .inl z2.2.2))] H := hP
  have hD : va_D A [(t, .inr (9, [.int (0 : Int32), .ref t_tape_a, .int t_taped, .int t_fault, .int t_faultPlace, .int t_at, .int t_rules, .ref t_firstPart_a, .ref t_partMany_a, .ref t_rulePlace_a, .int t_parts, .ref t_sort_a, .ref t_predicate_a, .ref t_firstTerm_a, .ref t_termMany_a, .ref t_partPlace_a, .int t_terms, .ref t_term_a, .ref t_depends_a, .int t_ruleCount, .ref t_partCount_a, .ref t_partSort_a, .ref t_partPredicate_a, .ref t_partTerms_a, .ref t_termOf_a, .ref t_variableCount_a, .ref t_kind_a, .ref t_width_a, .ref t_stratum_a, .ref t_holds_a, .ref t_held_a, .ref t_kept_a, .int t_changes, .int z2.2.1, .ref t_stage_a, .int t_logged, .int t_safe, .ref t_logs_a, .ref t_value_a, .int t_wanted, .int t_count, .int t_fresh])), (t_kind_a, .inl (cI, 10, .inl t_kind)), (t_width_a, .inl (cI, 10, .inl t_width)), (t_stage_a, .inl (cI, 64, .inl z2.2.2))] := hD
  have hz := gz_in hm
  have hm := gz_go hm
  have ho := Option.some.inj hm
  exact k_zret (gz_nar hz) hx hb hr hlocks hK hP hD hS dX9_put_19 hQ (by rw [← ho]) (by rw [← ho])
noncomputable def M_Model_remove (t_thrown : Int32) (t_kind : Nat → Int32) (t_width : Nat → Int32) (t_staged : Int32) (t_stage : Nat → Int32) (x0 : Int32) (x1 : Int32) (x2 : Int32) (x3 : Int32) : Option ((Int32) × (Int32) × (Int32) × (Nat → Int32)) := bd_ (M_Model_place t_kind t_width x0 x1 x2 x3) fun z1 => bd_ (M_Model_stage t_kind t_staged t_stage z1 (0 : Int32)) fun z2 => gz_ z2.1 <| some (z2.1, (0 : Int32), z2.2.1, z2.2.2)
set_option maxRecDepth 100000 in
set_option maxHeartbeats 4000000 in
theorem K_Model_remove (l : Launch) (D : va_G) (cB cI cZ cJ : ClassId) (t : Nat) (t_tape_a : Nat) (t_firstPart_a : Nat) (t_partMany_a : Nat) (t_rulePlace_a : Nat) (t_sort_a : Nat) (t_predicate_a : Nat) (t_firstTerm_a : Nat) (t_termMany_a : Nat) (t_partPlace_a : Nat) (t_term_a : Nat) (t_depends_a : Nat) (t_partCount_a : Nat) (t_partSort_a : Nat) (t_partPredicate_a : Nat) (t_partTerms_a : Nat) (t_termOf_a : Nat) (t_variableCount_a : Nat) (t_kind_a : Nat) (t_width_a : Nat) (t_stratum_a : Nat) (t_holds_a : Nat) (t_held_a : Nat) (t_kept_a : Nat) (t_stage_a : Nat) (t_logs_a : Nat) (t_value_a : Nat) (t_thrown : Int32) (t_taped : Int32) (t_fault : Int32) (t_faultPlace : Int32) (t_at : Int32) (t_rules : Int32) (t_parts : Int32) (t_terms : Int32) (t_ruleCount : Int32) (t_changes : Int32) (t_staged : Int32) (t_logged : Int32) (t_safe : Int32) (t_wanted : Int32) (t_count : Int32) (t_fresh : Int32) (t_kind : Nat → Int32) (t_width : Nat → Int32) (t_stage : Nat → Int32) (x0 : Int32) (x1 : Int32) (x2 : Int32) (x3 : Int32) (out : (Int32) × (Int32) × (Int32) × (Nat → Int32)) (hm : M_Model_remove t_thrown t_kind t_width t_staged t_stage x0 x1 x2 x3 = some out) : KC l yX9_remove cX9_remove 5 (some .boolean) { frames := 2, cells := 0, slots := 0, locals := 45 } D (kTy cB cI cZ cJ) [.ref t, .int x0, .int x1, .int x2, .int x3] [(t, .inr (9, [.int t_thrown, .ref t_tape_a, .int t_taped, .int t_fault, .int t_faultPlace, .int t_at, .int t_rules, .ref t_firstPart_a, .ref t_partMany_a, .ref t_rulePlace_a, .int t_parts, .ref t_sort_a, .ref t_predicate_a, .ref t_firstTerm_a, .ref t_termMany_a, .ref t_partPlace_a, .int t_terms, .ref t_term_a, .ref t_depends_a, .int t_ruleCount, .ref t_partCount_a, .ref t_partSort_a, .ref t_partPredicate_a, .ref t_partTerms_a, .ref t_termOf_a, .ref t_variableCount_a, .ref t_kind_a, .ref t_width_a, .ref t_stratum_a, .ref t_holds_a, .ref t_held_a, .ref t_kept_a, .int t_changes, .int t_staged, .ref t_stage_a, .int t_logged, .int t_safe, .ref t_logs_a, .ref t_value_a, .int t_wanted, .int t_count, .int t_fresh])), (t_kind_a, .inl (cI, 10, .inl t_kind)), (t_width_a, .inl (cI, 10, .inl t_width)), (t_stage_a, .inl (cI, 64, .inl t_stage))] (some (.int out.1)) [(t, .inr (9, [.int out.2.1, .ref t_tape_a, .int t_taped, .int t_fault, .int t_faultPlace, .int t_at, .int t_rules, .ref t_firstPart_a, .ref t_partMany_a, .ref t_rulePlace_a, .int t_parts, .ref t_sort_a, .ref t_predicate_a, .ref t_firstTerm_a, .ref t_termMany_a, .ref t_partPlace_a, .int t_terms, .ref t_term_a, .ref t_depends_a, .int t_ruleCount, .ref t_partCount_a, .ref t_partSort_a, .ref t_partPredicate_a, .ref t_partTerms_a, .ref t_termOf_a, .ref t_variableCount_a, .ref t_kind_a, .ref t_width_a, .ref t_stratum_a, .ref t_holds_a, .ref t_held_a, .ref t_kept_a, .int t_changes, .int out.2.2.1, .ref t_stage_a, .int t_logged, .int t_safe, .ref t_logs_a, .ref t_value_a, .int t_wanted, .int t_count, .int t_fresh])), (t_kind_a, .inl (cI, 10, .inl t_kind)), (t_width_a, .inl (cI, 10, .inl t_width)), (t_stage_a, .inl (cI, 64, .inl out.2.2.2))] := by
  refine KC.of (by decide +kernel) (Nat.le_of_ble_eq_true rfl) ?_
  intro p e s m below meth c A ls args Q hQ CX hA hK hP hD hl
  obtain ⟨hx, hb, hr, hml, hown, hts, hlocks⟩ := CX
  have hown : s.vm.findClass RX9 = some m.cls := hown
  have hS : va_S A s.heap s.heap [] := va_S.rf
  have hl : lv_has ls 5 [(0, .ref t), (1, .int x0), (2, .int x1), (3, .int x2), (4, .int x3)] := hl
  unfold M_Model_remove at hm
  obtain ⟨H, eH⟩ : ∃ H, H = s.heap := ⟨_, rfl⟩
  obtain ⟨locs, el⟩ : ∃ x : List Loc, x = [] := ⟨_, rfl⟩
  have hP : va_P D vwCl [(t, .inr (9, [.int t_thrown, .ref t_tape_a, .int t_taped, .int t_fault, .int t_faultPlace, .int t_at, .int t_rules, .ref t_firstPart_a, .ref t_partMany_a, .ref t_rulePlace_a, .int t_parts, .ref t_sort_a, .ref t_predicate_a, .ref t_firstTerm_a, .ref t_termMany_a, .ref t_partPlace_a, .int t_terms, .ref t_term_a, .ref t_depends_a, .int t_ruleCount, .ref t_partCount_a, .ref t_partSort_a, .ref t_partPredicate_a, .ref t_partTerms_a, .ref t_termOf_a, .ref t_variableCount_a, .ref t_kind_a, .ref t_width_a, .ref t_stratum_a, .ref t_holds_a, .ref t_held_a, .ref t_kept_a, .int t_changes, .int t_staged, .ref t_stage_a, .int t_logged, .int t_safe, .ref t_logs_a, .ref t_value_a, .int t_wanted, .int t_count, .int t_fresh])), (t_kind_a, .inl (cI, 10, .inl t_kind)), (t_width_a, .inl (cI, 10, .inl t_width)), (t_stage_a, .inl (cI, 64, .inl t_stage))] H := eH ▸ hP
  have hS : va_S A s.heap H locs := by rw [eH, el]; exact hS
  suffices hW : W p l e { frames := 2, cells := 0, slots := 0, locals := 45 } s m args below meth c H locs 0 0 Q (F0 m 0 ls []) by rw [eH, el] at hW; exact hW
  clear eH el
  refine lv_aload_n hx hb dX9_remove_0 rfl (lv_at hl 0 rfl) ?_
  refine lv_iconst (v := (0 : Int32)) hx hb dX9_remove_1 (by decide) ?_
  refine va_put (D := D) (ci := 9) (v := .int (0 : Int32)) (ty := .int) (C := RX9) (T := TX9) (N := 42) hx hb hts in_X9 tyX9 tyX9_ok nmX9 hown hK hP hD hS 0 rfl rfl 0 (by decide) (hts _ kf_X9_89) (fun _ h9 => h9) rfl (by decide +kernel) rfl rfl (Nat.le_of_ble_eq_true rfl) dX9_remove_2 (fun H locs hP hD hS => ?_)
  have hP : va_P D vwCl [(t, .inr (9, [.int (0 : Int32), .ref t_tape_a, .int t_taped, .int t_fault, .int t_faultPlace, .int t_at, .int t_rules, .ref t_firstPart_a, .ref t_partMany_a, .ref t_rulePlace_a, .int t_parts, .ref t_sort_a, .ref t_predicate_a, .ref t_firstTerm_a, .ref t_termMany_a, .ref t_partPlace_a, .int t_terms, .ref t_term_a, .ref t_depends_a, .int t_ruleCount, .ref t_partCount_a, .ref t_partSort_a, .ref t_partPredicate_a, .ref t_partTerms_a, .ref t_termOf_a, .ref t_variableCount_a, .ref t_kind_a, .ref t_width_a, .ref t_stratum_a, .ref t_holds_a, .ref t_held_a, .ref t_kept_a, .int t_changes, .int t_staged, .ref t_stage_a, .int t_logged, .int t_safe, .ref t_logs_a, .ref t_value_a, .int t_wanted, .int t_count, .int t_fresh])), (t_kind_a, .inl (cI, 10, .inl t_kind)), (t_width_a, .inl (cI, 10, .inl t_width)), (t_stage_a, .inl (cI, 64, .inl t_stage))] H := hP
  have hD : va_D A [(t, .inr (9, [.int (0 : Int32), .ref t_tape_a, .int t_taped, .int t_fault, .int t_faultPlace, .int t_at, .int t_rules, .ref t_firstPart_a, .ref t_partMany_a, .ref t_rulePlace_a, .int t_parts, .ref t_sort_a, .ref t_predicate_a, .ref t_firstTerm_a, .ref t_termMany_a, .ref t_partPlace_a, .int t_terms, .ref t_term_a, .ref t_depends_a, .int t_ruleCount, .ref t_partCount_a, .ref t_partSort_a, .ref t_partPredicate_a, .ref t_partTerms_a, .ref t_termOf_a, .ref t_variableCount_a, .ref t_kind_a, .ref t_width_a, .ref t_stratum_a, .ref t_holds_a, .ref t_held_a, .ref t_kept_a, .int t_changes, .int t_staged, .ref t_stage_a, .int t_logged, .int t_safe, .ref t_logs_a, .ref t_value_a, .int t_wanted, .int t_count, .int t_fresh])), (t_kind_a, .inl (cI, 10, .inl t_kind)), (t_width_a, .inl (cI, 10, .inl t_width)), (t_stage_a, .inl (cI, 64, .inl t_stage))] := hD
  refine lv_aload_n hx hb dX9_remove_5 rfl (lv_at hl 0 rfl) ?_
  refine lv_aload_n hx hb dX9_remove_6 rfl (lv_at hl 0 rfl) ?_
  refine lv_iload_n hx hb dX9_remove_7 rfl (lv_at hl 1 rfl) ?_
  refine lv_iload_n hx hb dX9_remove_8 rfl (lv_at hl 2 rfl) ?_
  refine lv_iload_n hx hb dX9_remove_9 rfl (lv_at hl 3 rfl) ?_
  refine lv_iload hx hb dX9_remove_10 (lv_at hl 4 rfl) ?_
  obtain ⟨z1, hz1, hm⟩ := bd_at hm
  refine k_callV (As := [.int x0, .int x1, .int x2, .int x3]) (rest := [.ref t]) (wr := [(t_stage_a, .inl (cI, 64, .inl t_stage))]) (ws1 := [(t, .inr (9, [.int (0 : Int32), .ref t_tape_a, .int t_taped, .int t_fault, .int t_faultPlace, .int t_at, .int t_rules, .ref t_firstPart_a, .ref t_partMany_a, .ref t_rulePlace_a, .int t_parts, .ref t_sort_a, .ref t_predicate_a, .ref t_firstTerm_a, .ref t_termMany_a, .ref t_partPlace_a, .int t_terms, .ref t_term_a, .ref t_depends_a, .int t_ruleCount, .ref t_partCount_a, .ref t_partSort_a, .ref t_partPredicate_a, .ref t_partTerms_a, .ref t_termOf_a, .ref t_variableCount_a, .ref t_kind_a, .ref t_width_a, .ref t_stratum_a, .ref t_holds_a, .ref t_held_a, .ref t_kept_a, .int t_changes, .int t_staged, .ref t_stage_a, .int t_logged, .int t_safe, .ref t_logs_a, .ref t_value_a, .int t_wanted, .int t_count, .int t_fresh])), (t_kind_a, .inl (cI, 10, .inl t_kind)), (t_width_a, .inl (cI, 10, .inl t_width)), (t_stage_a, .inl (cI, 64, .inl t_stage))]) [0, 1, 2] [3] [1, 2, 3, 0] (K_Model_place l D cB cI cZ cJ t t_tape_a t_firstPart_a t_partMany_a t_rulePlace_a t_sort_a t_predicate_a t_firstTerm_a t_termMany_a t_partPlace_a t_term_a t_depends_a t_partCount_a t_partSort_a t_partPredicate_a t_partTerms_a t_termOf_a t_variableCount_a t_kind_a t_width_a t_stratum_a t_holds_a t_held_a t_kept_a t_stage_a t_logs_a t_value_a (0 : Int32) t_taped t_fault t_faultPlace t_at t_rules t_parts t_terms t_ruleCount t_changes t_staged t_logged t_safe t_wanted t_count t_fresh t_kind t_width x0 x1 x2 x3 z1 hz1) mf_X9_place km_X9_250 hx hb hml hown hts hK hP hD hS hA hl.1 ⟨Nat.zero_le _, Nat.zero_le _⟩ dX9_remove_12 rfl rfl (Nat.le_of_ble_eq_true rfl) ⟨⟨rfl, rfl⟩, Nat.le_of_ble_eq_true rfl, Nat.le_of_ble_eq_true rfl⟩ rfl rfl (by decide) rfl rfl rfl rfl (fun H locs hP hD hS => ?_)
  have hP : va_P D vwCl [(t, .inr (9, [.int (0 : Int32), .ref t_tape_a, .int t_taped, .int t_fault, .int t_faultPlace, .int t_at, .int t_rules, .ref t_firstPart_a, .ref t_partMany_a, .ref t_rulePlace_a, .int t_parts, .ref t_sort_a, .ref t_predicate_a, .ref t_firstTerm_a, .ref t_termMany_a, .ref t_partPlace_a, .int t_terms, .ref t_term_a, .ref t_depends_a, .int t_ruleCount, .ref t_partCount_a, .ref t_partSort_a, .ref t_partPredicate_a, .ref t_partTerms_a, .ref t_termOf_a, .ref t_variableCount_a, .ref t_kind_a, .ref t_width_a, .ref t_stratum_a, .ref t_holds_a, .ref t_held_a, .ref t_kept_a, .int t_changes, .int t_staged, .ref t_stage_a, .int t_logged, .int t_safe, .ref t_logs_a, .ref t_value_a, .int t_wanted, .int t_count, .int t_fresh])), (t_kind_a, .inl (cI, 10, .inl t_kind)), (t_width_a, .inl (cI, 10, .inl t_width)), (t_stage_a, .inl (cI, 64, .inl t_stage))] H := hP
  have hD : va_D A [(t, .inr (9, [.int (0 : Int32), .ref t_tape_a, .int t_taped, .int t_fault, .int t_faultPlace, .int t_at, .int t_rules, .ref t_firstPart_a, .ref t_partMany_a, .ref t_rulePlace_a, .int t_parts, .ref t_sort_a, .ref t_predicate_a, .ref t_firstTerm_a, .ref t_termMany_a, .ref t_partPlace_a, .int t_terms, .ref t_term_a, .ref t_depends_a, .int t_ruleCount, .ref t_partCount_a, .ref t_partSort_a, .ref t_partPredicate_a, .ref t_partTerms_a, .ref t_termOf_a, .ref t_variableCount_a, .ref t_kind_a, .ref t_width_a, .ref t_stratum_a, .ref t_holds_a, .ref t_held_a, .ref t_kept_a, .int t_changes, .int t_staged, .ref t_stage_a, .int t_logged, .int t_safe, .ref t_logs_a, .ref t_value_a, .int t_wanted, .int t_count, .int t_fresh])), (t_kind_a, .inl (cI, 10, .inl t_kind)), (t_width_a, .inl (cI, 10, .inl t_width)), (t_stage_a, .inl (cI, 64, .inl t_stage))] := hD
  refine lv_iconst (v := (0 : Int32)) hx hb dX9_remove_15 (by decide) ?_
  obtain ⟨z2, hz2, hm⟩ := bd_at hm
  refine k_callV (As := [.int z1, .int (0 : Int32)]) (rest := []) (wr := [(t_width_a, .inl (cI, 10, .inl t_width))]) (ws1 := [(t, .inr (9, [.int (0 : Int32), .ref t_tape_a, .int t_taped, .int t_fault, .int t_faultPlace, .int t_at, .int t_rules, .ref t_firstPart_a, .ref t_partMany_a, .ref t_rulePlace_a, .int t_parts, .ref t_sort_a, .ref t_predicate_a, .ref t_firstTerm_a, .ref t_termMany_a, .ref t_partPlace_a, .int t_terms, .ref t_term_a, .ref t_depends_a, .int t_ruleCount, .ref t_partCount_a, .ref t_partSort_a, .ref t_partPredicate_a, .ref t_partTerms_a, .ref t_termOf_a, .ref t_variableCount_a, .ref t_kind_a, .ref t_width_a, .ref t_stratum_a, .ref t_holds_a, .ref t_held_a, .ref t_kept_a, .int t_changes, .int z2.2.1, .ref t_stage_a, .int t_logged, .int t_safe, .ref t_logs_a, .ref t_value_a, .int t_wanted, .int t_count, .int t_fresh])), (t_kind_a, .inl (cI, 10, .inl t_kind)), (t_width_a, .inl (cI, 10, .inl t_width)), (t_stage_a, .inl (cI, 64, .inl z2.2.2))]) [0, 1, 3] [2] [1, 2, 0, 3] (K_Model_stage l D cB cI cZ cJ t t_tape_a t_firstPart_a t_partMany_a t_rulePlace_a t_sort_a t_predicate_a t_firstTerm_a t_termMany_a t_partPlace_a t_term_a t_depends_a t_partCount_a t_partSort_a t_partPredicate_a t_partTerms_a t_termOf_a t_variableCount_a t_kind_a t_width_a t_stratum_a t_holds_a t_held_a t_kept_a t_stage_a t_logs_a t_value_a (0 : Int32) t_taped t_fault t_faultPlace t_at t_rules t_parts t_terms t_ruleCount t_changes t_staged t_logged t_safe t_wanted t_count t_fresh t_kind t_stage z1 (0 : Int32) z2 hz2) mf_X9_stage km_X9_254 hx hb hml hown hts hK hP hD hS hA hl.1 ⟨Nat.zero_le _, Nat.zero_le _⟩ dX9_remove_16 rfl rfl (Nat.le_of_ble_eq_true rfl) ⟨⟨rfl, rfl⟩, Nat.le_of_ble_eq_true rfl, Nat.le_of_ble_eq_true rfl⟩ rfl rfl (by decide) rfl rfl rfl rfl (fun H locs hP hD hS => ?_)
  have hP : va_P D vwCl [(t, .inr (9, [.int (0 : Int32), .ref t_tape_a, .int t_taped, .int t_fault, .int t_faultPlace, .int t_at, .int t_rules, .ref t_firstPart_a, .ref t_partMany_a, .ref t_rulePlace_a, .int t_parts, .ref t_sort_a, .ref t_predicate_a, .ref t_firstTerm_a, .ref t_termMany_a, .ref t_partPlace_a, .int t_terms, .ref t_term_a, .ref t_depends_a, .int t_ruleCount, .ref t_partCount_a, .ref t_partSort_a, .ref t_partPredicate_a, .ref t_partTerms_a, .ref t_termOf_a, .ref t_variableCount_a, .ref t_kind_a, .ref t_width_a, .ref t_stratum_a, .ref t_holds_a, .ref t_held_a, .ref t_kept_a, .int t_changes, .int z2.2.1, .ref t_stage_a, .int t_logged, .int t_safe, .ref t_logs_a, .ref t_value_a, .int t_wanted, .int t_count, .int t_fresh])), (t_kind_a, .inl (cI, 10, .inl t_kind)), (t_width_a, .inl (cI, 10, .inl t_width)), (t_stage_a, .inl (cI, 64, .inl z2.2.2))] H := hP
  have hD : va_D A [(t, .inr (9, [.int (0 : Int32), .ref t_tape_a, .int t_taped, .int t_fault, .int t_faultPlace, .int t_at, .int t_rules, .ref t_firstPart_a, .ref t_partMany_a, .ref t_rulePlace_a, .int t_parts, .ref t_sort_a, .ref t_predicate_a, .ref t_firstTerm_a, .ref t_termMany_a, .ref t_partPlace_a, .int t_terms, .ref t_term_a, .ref t_depends_a, .int t_ruleCount, .ref t_partCount_a, .ref t_partSort_a, .ref t_partPredicate_a, .ref t_partTerms_a, .ref t_termOf_a, .ref t_variableCount_a, .ref t_kind_a, .ref t_width_a, .ref t_stratum_a, .ref t_holds_a, .ref t_held_a, .ref t_kept_a, .int t_changes, .int z2.2.1, .ref t_stage_a, .int t_logged, .int t_safe, .ref t_logs_a, .ref t_value_a, .int t_wanted, .int t_count, .int t_fresh])), (t_kind_a, .inl (cI, 10, .inl t_kind)), (t_width_a, .inl (cI, 10, .inl t_width)), (t_stage_a, .inl (cI, 64, .inl z2.2.2))] := hD
  have hz := gz_in hm
  have hm := gz_go hm
  have ho := Option.some.inj hm
  exact k_zret (gz_nar hz) hx hb hr hlocks hK hP hD hS dX9_remove_19 hQ (by rw [← ho]) (by rw [← ho])
noncomputable def M_Model_changedMany_L4 (F : Nat) (t_holds : Nat → Int32) (t_held : Nat → Int32) : Nat → Int32 → Int32 → Option ((Int32))
  | 0, _, _ => none
  | n + 1, y2, y1 => if (17280 : Int32) ≤ y2 then (some y1) else (gd_ y2 17280 <| gd_ y2 17280 <| if (t_holds y2.toNatClampNeg) = (t_held y2.toNatClampNeg) then (lt_ ((y1 + (0 : Int32))) fun v1 => lt_ (y2 + (1 : Int32)) fun v2 => M_Model_changedMany_L4 F t_holds t_held n v2 v1) else (lt_ ((y1 + (1 : Int32))) fun v3 => lt_ (y2 + (1 : Int32)) fun v4 => M_Model_changedMany_L4 F t_holds t_held n v4 v3))
noncomputable def M_Model_changedMany (F : Nat) (t_holds : Nat → Int32) (t_held : Nat → Int32) : Option ((Int32)) := bd_ (M_Model_changedMany_L4 F t_holds t_held F (0 : Int32) (0 : Int32)) fun z5 => some z5
set_option maxRecDepth 100000 in
set_option maxHeartbeats 4000000 in
theorem K_Model_changedMany (l : Launch) (D : va_G) (cB cI cZ cJ : ClassId) (t : Nat) (t_tape_a : Nat) (t_firstPart_a : Nat) (t_partMany_a : Nat) (t_rulePlace_a : Nat) (t_sort_a : Nat) (t_predicate_a : Nat) (t_firstTerm_a : Nat) (t_termMany_a : Nat) (t_partPlace_a : Nat) (t_term_a : Nat) (t_depends_a : Nat) (t_partCount_a : Nat) (t_partSort_a : Nat) (t_partPredicate_a : Nat) (t_partTerms_a : Nat) (t_termOf_a : Nat) (t_variableCount_a : Nat) (t_kind_a : Nat) (t_width_a : Nat) (t_stratum_a : Nat) (t_holds_a : Nat) (t_held_a : Nat) (t_kept_a : Nat) (t_stage_a : Nat) (t_logs_a : Nat) (t_value_a : Nat) (t_thrown : Int32) (t_taped : Int32) (t_fault : Int32) (t_faultPlace : Int32) (t_at : Int32) (t_rules : Int32) (t_parts : Int32) (t_terms : Int32) (t_ruleCount : Int32) (t_changes : Int32) (t_staged : Int32) (t_logged : Int32) (t_safe : Int32) (t_wanted : Int32) (t_count : Int32) (t_fresh : Int32) (t_holds : Nat → Int32) (t_held : Nat → Int32) (F : Nat) (out : (Int32)) (hm : M_Model_changedMany F t_holds t_held = some out) : KC l yX9_changedMany cX9_changedMany 3 (some .int) { frames := 0, cells := 0, slots := 0, locals := 0 } D (kTy cB cI cZ cJ) [.ref t] [(t, .inr (9, [.int t_thrown, .ref t_tape_a, .int t_taped, .int t_fault, .int t_faultPlace, .int t_at, .int t_rules, .ref t_firstPart_a, .ref t_partMany_a, .ref t_rulePlace_a, .int t_parts, .ref t_sort_a, .ref t_predicate_a, .ref t_firstTerm_a, .ref t_termMany_a, .ref t_partPlace_a, .int t_terms, .ref t_term_a, .ref t_depends_a, .int t_ruleCount, .ref t_partCount_a, .ref t_partSort_a, .ref t_partPredicate_a, .ref t_partTerms_a, .ref t_termOf_a, .ref t_variableCount_a, .ref t_kind_a, .ref t_width_a, .ref t_stratum_a, .ref t_holds_a, .ref t_held_a, .ref t_kept_a, .int t_changes, .int t_staged, .ref t_stage_a, .int t_logged, .int t_safe, .ref t_logs_a, .ref t_value_a, .int t_wanted, .int t_count, .int t_fresh])), (t_holds_a, .inl (cZ, 17280, .inl t_holds)), (t_held_a, .inl (cZ, 17280, .inl t_held))] (some (.int out)) [(t, .inr (9, [.int t_thrown, .ref t_tape_a, .int t_taped, .int t_fault, .int t_faultPlace, .int t_at, .int t_rules, .ref t_firstPart_a, .ref t_partMany_a, .ref t_rulePlace_a, .int t_parts, .ref t_sort_a, .ref t_predicate_a, .ref t_firstTerm_a, .ref t_termMany_a, .ref t_partPlace_a, .int t_terms, .ref t_term_a, .ref t_depends_a, .int t_ruleCount, .ref t_partCount_a, .ref t_partSort_a, .ref t_partPredicate_a, .ref t_partTerms_a, .ref t_termOf_a, .ref t_variableCount_a, .ref t_kind_a, .ref t_width_a, .ref t_stratum_a, .ref t_holds_a, .ref t_held_a, .ref t_kept_a, .int t_changes, .int t_staged, .ref t_stage_a, .int t_logged, .int t_safe, .ref t_logs_a, .ref t_value_a, .int t_wanted, .int t_count, .int t_fresh])), (t_holds_a, .inl (cZ, 17280, .inl t_holds)), (t_held_a, .inl (cZ, 17280, .inl t_held))] := by
  refine KC.of (by decide +kernel) (Nat.le_of_ble_eq_true rfl) ?_
  intro p e s m below meth c A ls args Q hQ CX hA hK hP hD hl
  obtain ⟨hx, hb, hr, hml, hown, hts, hlocks⟩ := CX
  have hown : s.vm.findClass RX9 = some m.cls := hown
  have hS : va_S A s.heap s.heap [] := va_S.rf
  have hl : lv_has ls 3 [(0, .ref t)] := hl
  have L4 : ∀ (n : Nat) (y2 : Int32) (y1 : Int32) (z : ((Int32))), M_Model_changedMany_L4 F t_holds t_held n y2 y1 = some z →
      (∀ (H : Heap) (locs : List Loc) (ls : Array Slot), va_P D vwCl [(t, .inr (9, [.int t_thrown, .ref t_tape_a, .int t_taped, .int t_fault, .int t_faultPlace, .int t_at, .int t_rules, .ref t_firstPart_a, .ref t_partMany_a, .ref t_rulePlace_a, .int t_parts, .ref t_sort_a, .ref t_predicate_a, .ref t_firstTerm_a, .ref t_termMany_a, .ref t_partPlace_a, .int t_terms, .ref t_term_a, .ref t_depends_a, .int t_ruleCount, .ref t_partCount_a, .ref t_partSort_a, .ref t_partPredicate_a, .ref t_partTerms_a, .ref t_termOf_a, .ref t_variableCount_a, .ref t_kind_a, .ref t_width_a, .ref t_stratum_a, .ref t_holds_a, .ref t_held_a, .ref t_kept_a, .int t_changes, .int t_staged, .ref t_stage_a, .int t_logged, .int t_safe, .ref t_logs_a, .ref t_value_a, .int t_wanted, .int t_count, .int t_fresh])), (t_holds_a, .inl (cZ, 17280, .inl t_holds)), (t_held_a, .inl (cZ, 17280, .inl t_held))] H → va_D A [(t, .inr (9, [.int t_thrown, .ref t_tape_a, .int t_taped, .int t_fault, .int t_faultPlace, .int t_at, .int t_rules, .ref t_firstPart_a, .ref t_partMany_a, .ref t_rulePlace_a, .int t_parts, .ref t_sort_a, .ref t_predicate_a, .ref t_firstTerm_a, .ref t_termMany_a, .ref t_partPlace_a, .int t_terms, .ref t_term_a, .ref t_depends_a, .int t_ruleCount, .ref t_partCount_a, .ref t_partSort_a, .ref t_partPredicate_a, .ref t_partTerms_a, .ref t_termOf_a, .ref t_variableCount_a, .ref t_kind_a, .ref t_width_a, .ref t_stratum_a, .ref t_holds_a, .ref t_held_a, .ref t_kept_a, .int t_changes, .int t_staged, .ref t_stage_a, .int t_logged, .int t_safe, .ref t_logs_a, .ref t_value_a, .int t_wanted, .int t_count, .int t_fresh])), (t_holds_a, .inl (cZ, 17280, .inl t_holds)), (t_held_a, .inl (cZ, 17280, .inl t_held))] → va_S A s.heap H locs → lv_has ls 3 [(1, .int z)] → W p l e { frames := 0, cells := 0, slots := 0, locals := 0 } s m args below meth c H locs 0 0 Q (F0 m 40 ls [])) →
      ∀ (H : Heap) (locs : List Loc) (ls : Array Slot), va_P D vwCl [(t, .inr (9, [.int t_thrown, .ref t_tape_a, .int t_taped, .int t_fault, .int t_faultPlace, .int t_at, .int t_rules, .ref t_firstPart_a, .ref t_partMany_a, .ref t_rulePlace_a, .int t_parts, .ref t_sort_a, .ref t_predicate_a, .ref t_firstTerm_a, .ref t_termMany_a, .ref t_partPlace_a, .int t_terms, .ref t_term_a, .ref t_depends_a, .int t_ruleCount, .ref t_partCount_a, .ref t_partSort_a, .ref t_partPredicate_a, .ref t_partTerms_a, .ref t_termOf_a, .ref t_variableCount_a, .ref t_kind_a, .ref t_width_a, .ref t_stratum_a, .ref t_holds_a, .ref t_held_a, .ref t_kept_a, .int t_changes, .int t_staged, .ref t_stage_a, .int t_logged, .int t_safe, .ref t_logs_a, .ref t_value_a, .int t_wanted, .int t_count, .int t_fresh])), (t_holds_a, .inl (cZ, 17280, .inl t_holds)), (t_held_a, .inl (cZ, 17280, .inl t_held))] H → va_D A [(t, .inr (9, [.int t_thrown, .ref t_tape_a, .int t_taped, .int t_fault, .int t_faultPlace, .int t_at, .int t_rules, .ref t_firstPart_a, .ref t_partMany_a, .ref t_rulePlace_a, .int t_parts, .ref t_sort_a, .ref t_predicate_a, .ref t_firstTerm_a, .ref t_termMany_a, .ref t_partPlace_a, .int t_terms, .ref t_term_a, .ref t_depends_a, .int t_ruleCount, .ref t_partCount_a, .ref t_partSort_a, .ref t_partPredicate_a, .ref t_partTerms_a, .ref t_termOf_a, .ref t_variableCount_a, .ref t_kind_a, .ref t_width_a, .ref t_stratum_a, .ref t_holds_a, .ref t_held_a, .ref t_kept_a, .int t_changes, .int t_staged, .ref t_stage_a, .int t_logged, .int t_safe, .ref t_logs_a, .ref t_value_a, .int t_wanted, .int t_count, .int t_fresh])), (t_holds_a, .inl (cZ, 17280, .inl t_holds)), (t_held_a, .inl (cZ, 17280, .inl t_held))] → va_S A s.heap H locs → lv_has ls 3 [(2, .int y2), (1, .int y1), (0, .ref t)] → W p l e { frames := 0, cells := 0, slots := 0, locals := 0 } s m args below meth c H locs 0 0 Q (F0 m 4 ls []) := by
    intro  n
    induction n with
    | zero => intro y2 y1 z hm; unfold M_Model_changedMany_L4 at hm; cases hm
    | succ n ih =>
      intro y2 y1 z hm hE H locs ls hP hD hS hl
      unfold M_Model_changedMany_L4 at hm
      refine lv_iload_n hx hb dX9_changedMany_4 rfl (lv_at hl 0 rfl) ?_
      refine lv_sipush (v := (17280 : Int32)) hx hb dX9_changedMany_5 (by decide) ?_
      refine lv_icmp_ge (tgt := 40) hx hb dX9_changedMany_8 (by decide) (fun hc => ?_) (fun hc => ?_)
      · have hm := if_t hc hm
        cases hm
        exact hE H locs ls hP hD hS (lv_sub hl [1] rfl)
      · have hm := if_f hc hm
        refine lv_iload_n hx hb dX9_changedMany_11 rfl (lv_at hl 1 rfl) ?_
        refine lv_aload_n hx hb dX9_changedMany_12 rfl (lv_at hl 2 rfl) ?_
        refine va_get (D := D) (ci := 9) (v := .ref t_holds_a) (C := RX9) (T := TX9) (N := 42) hx hb hts in_X9 hown hK hP 0 rfl rfl 29 (by decide) (hts _ kf_X9_71) (fun _ h9 => h9) rfl dX9_changedMany_13 ?_
        refine lv_iload_n hx hb dX9_changedMany_16 rfl (lv_at hl 0 rfl) ?_
        refine va_zald hx hb hK hP 1 2 rfl rfl (gd_in hm) dX9_changedMany_17 ?_
        have hm := gd_go hm
        refine lv_aload_n hx hb dX9_changedMany_18 rfl (lv_at hl 2 rfl) ?_
        refine va_get (D := D) (ci := 9) (v := .ref t_held_a) (C := RX9) (T := TX9) (N := 42) hx hb hts in_X9 hown hK hP 0 rfl rfl 30 (by decide) (hts _ kf_X9_74) (fun _ h9 => h9) rfl dX9_changedMany_19 ?_
        refine lv_iload_n hx hb dX9_changedMany_22 rfl (lv_at hl 0 rfl) ?_
        refine va_zald hx hb hK hP 2 2 rfl rfl (gd_in hm) dX9_changedMany_23 ?_
        have hm := gd_go hm
        refine lv_icmp_eq (tgt := 31) hx hb dX9_changedMany_24 (by decide) (fun hc => ?_) (fun hc => ?_)
        · have hm := if_t hc hm
          refine lv_iconst (v := (0 : Int32)) hx hb dX9_changedMany_31 (by decide) ?_
          refine lv_iadd hx hb dX9_changedMany_32 ?_
          refine lv_topi (fun v1 ev1 => ?_)
          have hm := lt_at ev1 hm
          refine lv_istore_n (lv' := [(1, .int v1), (2, .int y2), (0, .ref t)]) hx hb dX9_changedMany_33 rfl hl (by decide) rfl (fun ls hl => ?_)
          obtain ⟨v2, ev2⟩ : ∃ y : Int32, y = y2 + (1 : Int32) := ⟨_, rfl⟩
          have hm := lt_at ev2 hm
          refine lv_iinc (v := v2) (lv' := [(2, .int v2), (1, .int v1), (0, .ref t)]) hx hb dX9_changedMany_34 hl (k := 1) rfl (by rw [ev2]; rfl) (by decide) rfl (fun ls hl => ?_)
          refine lv_goto (tgt := 4) hx hb dX9_changedMany_37 (by decide) ?_
          exact ih v2 v1 z hm hE H locs ls hP hD hS (lv_sub hl [0, 1, 2] rfl)
        · have hm := if_f hc hm
          refine lv_iconst (v := (1 : Int32)) hx hb dX9_changedMany_27 (by decide) ?_
          refine lv_goto (tgt := 32) hx hb dX9_changedMany_28 (by decide) ?_
          refine lv_iadd hx hb dX9_changedMany_32 ?_
          refine lv_topi (fun v3 ev3 => ?_)
          have hm := lt_at ev3 hm
          refine lv_istore_n (lv' := [(1, .int v3), (2, .int y2), (0, .ref t)]) hx hb dX9_changedMany_33 rfl hl (by decide) rfl (fun ls hl => ?_)
          obtain ⟨v4, ev4⟩ : ∃ y : Int32, y = y2 + (1 : Int32) := ⟨_, rfl⟩
          have hm := lt_at ev4 hm
          refine lv_iinc (v := v4) (lv' := [(2, .int v4), (1, .int v3), (0, .ref t)]) hx hb dX9_changedMany_34 hl (k := 1) rfl (by rw [ev4]; rfl) (by decide) rfl (fun ls hl => ?_)
          refine lv_goto (tgt := 4) hx hb dX9_changedMany_37 (by decide) ?_
          exact ih v4 v3 z hm hE H locs ls hP hD hS (lv_sub hl [0, 1, 2] rfl)
  unfold M_Model_changedMany at hm
  obtain ⟨H, eH⟩ : ∃ H, H = s.heap := ⟨_, rfl⟩
  obtain ⟨locs, el⟩ : ∃ x : List Loc, x = [] := ⟨_, rfl⟩
  have hP : va_P D vwCl [(t, .inr (9, [.int t_thrown, .ref t_tape_a, .int t_taped, .int t_fault, .int t_faultPlace, .int t_at, .int t_rules, .ref t_firstPart_a, .ref t_partMany_a, .ref t_rulePlace_a, .int t_parts, .ref t_sort_a, .ref t_predicate_a, .ref t_firstTerm_a, .ref t_termMany_a, .ref t_partPlace_a, .int t_terms, .ref t_term_a, .ref t_depends_a, .int t_ruleCount, .ref t_partCount_a, .ref t_partSort_a, .ref t_partPredicate_a, .ref t_partTerms_a, .ref t_termOf_a, .ref t_variableCount_a, .ref t_kind_a, .ref t_width_a, .ref t_stratum_a, .ref t_holds_a, .ref t_held_a, .ref t_kept_a, .int t_changes, .int t_staged, .ref t_stage_a, .int t_logged, .int t_safe, .ref t_logs_a, .ref t_value_a, .int t_wanted, .int t_count, .int t_fresh])), (t_holds_a, .inl (cZ, 17280, .inl t_holds)), (t_held_a, .inl (cZ, 17280, .inl t_held))] H := eH ▸ hP
  have hS : va_S A s.heap H locs := by rw [eH, el]; exact hS
  suffices hW : W p l e { frames := 0, cells := 0, slots := 0, locals := 0 } s m args below meth c H locs 0 0 Q (F0 m 0 ls []) by rw [eH, el] at hW; exact hW
  clear eH el
  refine lv_iconst (v := (0 : Int32)) hx hb dX9_changedMany_0 (by decide) ?_
  refine lv_istore_n (lv' := [(1, .int (0 : Int32)), (0, .ref t)]) hx hb dX9_changedMany_1 rfl hl (by decide) rfl (fun ls hl => ?_)
  refine lv_iconst (v := (0 : Int32)) hx hb dX9_changedMany_2 (by decide) ?_
  refine lv_istore_n (lv' := [(2, .int (0 : Int32)), (1, .int (0 : Int32)), (0, .ref t)]) hx hb dX9_changedMany_3 rfl hl (by decide) rfl (fun ls hl => ?_)
  obtain ⟨z5, hz5, hm⟩ := bd_at hm
  refine L4  F (0 : Int32) (0 : Int32) z5 hz5 (fun H locs ls hP hD hS hl => ?_) H locs ls hP hD hS (lv_sub hl [0, 1, 2] rfl)
  refine lv_iload_n hx hb dX9_changedMany_40 rfl (lv_at hl 0 rfl) ?_
  have ho := Option.some.inj hm
  exact k_iret hx hb hr hlocks hK hP hD hS dX9_changedMany_41 hQ (by rw [← ho]) rfl
noncomputable def M_Model_abort (t_thrown : Int32) (t_staged : Int32) : Option ((Int32) × (Int32) × (Int32)) := some (t_staged, (0 : Int32), (0 : Int32))
set_option maxRecDepth 100000 in
set_option maxHeartbeats 4000000 in
theorem K_Model_abort (l : Launch) (D : va_G) (cB cI cZ cJ : ClassId) (t : Nat) (t_tape_a : Nat) (t_firstPart_a : Nat) (t_partMany_a : Nat) (t_rulePlace_a : Nat) (t_sort_a : Nat) (t_predicate_a : Nat) (t_firstTerm_a : Nat) (t_termMany_a : Nat) (t_partPlace_a : Nat) (t_term_a : Nat) (t_depends_a : Nat) (t_partCount_a : Nat) (t_partSort_a : Nat) (t_partPredicate_a : Nat) (t_partTerms_a : Nat) (t_termOf_a : Nat) (t_variableCount_a : Nat) (t_kind_a : Nat) (t_width_a : Nat) (t_stratum_a : Nat) (t_holds_a : Nat) (t_held_a : Nat) (t_kept_a : Nat) (t_stage_a : Nat) (t_logs_a : Nat) (t_value_a : Nat) (t_thrown : Int32) (t_taped : Int32) (t_fault : Int32) (t_faultPlace : Int32) (t_at : Int32) (t_rules : Int32) (t_parts : Int32) (t_terms : Int32) (t_ruleCount : Int32) (t_changes : Int32) (t_staged : Int32) (t_logged : Int32) (t_safe : Int32) (t_wanted : Int32) (t_count : Int32) (t_fresh : Int32) (out : (Int32) × (Int32) × (Int32)) (hm : M_Model_abort t_thrown t_staged = some out) : KC l yX9_abort cX9_abort 2 (some .int) { frames := 0, cells := 0, slots := 0, locals := 0 } D (kTy cB cI cZ cJ) [.ref t] [(t, .inr (9, [.int t_thrown, .ref t_tape_a, .int t_taped, .int t_fault, .int t_faultPlace, .int t_at, .int t_rules, .ref t_firstPart_a, .ref t_partMany_a, .ref t_rulePlace_a, .int t_parts, .ref t_sort_a, .ref t_predicate_a, .ref t_firstTerm_a, .ref t_termMany_a, .ref t_partPlace_a, .int t_terms, .ref t_term_a, .ref t_depends_a, .int t_ruleCount, .ref t_partCount_a, .ref t_partSort_a, .ref t_partPredicate_a, .ref t_partTerms_a, .ref t_termOf_a, .ref t_variableCount_a, .ref t_kind_a, .ref t_width_a, .ref t_stratum_a, .ref t_holds_a, .ref t_held_a, .ref t_kept_a, .int t_changes, .int t_staged, .ref t_stage_a, .int t_logged, .int t_safe, .ref t_logs_a, .ref t_value_a, .int t_wanted, .int t_count, .int t_fresh]))] (some (.int out.1)) [(t, .inr (9, [.int out.2.1, .ref t_tape_a, .int t_taped, .int t_fault, .int t_faultPlace, .int t_at, .int t_rules, .ref t_firstPart_a, .ref t_partMany_a, .ref t_rulePlace_a, .int t_parts, .ref t_sort_a, .ref t_predicate_a, .ref t_firstTerm_a, .ref t_termMany_a, .ref t_partPlace_a, .int t_terms, .ref t_term_a, .ref t_depends_a, .int t_ruleCount, .ref t_partCount_a, .ref t_partSort_a, .ref t_partPredicate_a, .ref t_partTerms_a, .ref t_termOf_a, .ref t_variableCount_a, .ref t_kind_a, .ref t_width_a, .ref t_stratum_a, .ref t_holds_a, .ref t_held_a, .ref t_kept_a, .int t_changes, .int out.2.2, .ref t_stage_a, .int t_logged, .int t_safe, .ref t_logs_a, .ref t_value_a, .int t_wanted, .int t_count, .int t_fresh]))] := by
  refine KC.of (by decide +kernel) (Nat.le_of_ble_eq_true rfl) ?_
  intro p e s m below meth c A ls args Q hQ CX hA hK hP hD hl
  obtain ⟨hx, hb, hr, hml, hown, hts, hlocks⟩ := CX
  have hown : s.vm.findClass RX9 = some m.cls := hown
  have hS : va_S A s.heap s.heap [] := va_S.rf
  have hl : lv_has ls 2 [(0, .ref t)] := hl
  unfold M_Model_abort at hm
  obtain ⟨H, eH⟩ : ∃ H, H = s.heap := ⟨_, rfl⟩
  obtain ⟨locs, el⟩ : ∃ x : List Loc, x = [] := ⟨_, rfl⟩
  have hP : va_P D vwCl [(t, .inr (9, [.int t_thrown, .ref t_tape_a, .int t_taped, .int t_fault, .int t_faultPlace, .int t_at, .int t_rules, .ref t_firstPart_a, .ref t_partMany_a, .ref t_rulePlace_a, .int t_parts, .ref t_sort_a, .ref t_predicate_a, .ref t_firstTerm_a, .ref t_termMany_a, .ref t_partPlace_a, .int t_terms, .ref t_term_a, .ref t_depends_a, .int t_ruleCount, .ref t_partCount_a, .ref t_partSort_a, .ref t_partPredicate_a, .ref t_partTerms_a, .ref t_termOf_a, .ref t_variableCount_a, .ref t_kind_a, .ref t_width_a, .ref t_stratum_a, .ref t_holds_a, .ref t_held_a, .ref t_kept_a, .int t_changes, .int t_staged, .ref t_stage_a, .int t_logged, .int t_safe, .ref t_logs_a, .ref t_value_a, .int t_wanted, .int t_count, .int t_fresh]))] H := eH ▸ hP
  have hS : va_S A s.heap H locs := by rw [eH, el]; exact hS
  suffices hW : W p l e { frames := 0, cells := 0, slots := 0, locals := 0 } s m args below meth c H locs 0 0 Q (F0 m 0 ls []) by rw [eH, el] at hW; exact hW
  clear eH el
  refine lv_aload_n hx hb dX9_abort_0 rfl (lv_at hl 0 rfl) ?_
  refine lv_iconst (v := (0 : Int32)) hx hb dX9_abort_1 (by decide) ?_
  refine va_put (D := D) (ci := 9) (v := .int (0 : Int32)) (ty := .int) (C := RX9) (T := TX9) (N := 42) hx hb hts in_X9 tyX9 tyX9_ok nmX9 hown hK hP hD hS 0 rfl rfl 0 (by decide) (hts _ kf_X9_89) (fun _ h9 => h9) rfl (by decide +kernel) rfl rfl (Nat.le_of_ble_eq_true rfl) dX9_abort_2 (fun H locs hP hD hS => ?_)
  have hP : va_P D vwCl [(t, .inr (9, [.int (0 : Int32), .ref t_tape_a, .int t_taped, .int t_fault, .int t_faultPlace, .int t_at, .int t_rules, .ref t_firstPart_a, .ref t_partMany_a, .ref t_rulePlace_a, .int t_parts, .ref t_sort_a, .ref t_predicate_a, .ref t_firstTerm_a, .ref t_termMany_a, .ref t_partPlace_a, .int t_terms, .ref t_term_a, .ref t_depends_a, .int t_ruleCount, .ref t_partCount_a, .ref t_partSort_a, .ref t_partPredicate_a, .ref t_partTerms_a, .ref t_termOf_a, .ref t_variableCount_a, .ref t_kind_a, .ref t_width_a, .ref t_stratum_a, .ref t_holds_a, .ref t_held_a, .ref t_kept_a, .int t_changes, .int t_staged, .ref t_stage_a, .int t_logged, .int t_safe, .ref t_logs_a, .ref t_value_a, .int t_wanted, .int t_count, .int t_fresh]))] H := hP
  have hD : va_D A [(t, .inr (9, [.int (0 : Int32), .ref t_tape_a, .int t_taped, .int t_fault, .int t_faultPlace, .int t_at, .int t_rules, .ref t_firstPart_a, .ref t_partMany_a, .ref t_rulePlace_a, .int t_parts, .ref t_sort_a, .ref t_predicate_a, .ref t_firstTerm_a, .ref t_termMany_a, .ref t_partPlace_a, .int t_terms, .ref t_term_a, .ref t_depends_a, .int t_ruleCount, .ref t_partCount_a, .ref t_partSort_a, .ref t_partPredicate_a, .ref t_partTerms_a, .ref t_termOf_a, .ref t_variableCount_a, .ref t_kind_a, .ref t_width_a, .ref t_stratum_a, .ref t_holds_a, .ref t_held_a, .ref t_kept_a, .int t_changes, .int t_staged, .ref t_stage_a, .int t_logged, .int t_safe, .ref t_logs_a, .ref t_value_a, .int t_wanted, .int t_count, .int t_fresh]))] := hD
  refine lv_aload_n hx hb dX9_abort_5 rfl (lv_at hl 0 rfl) ?_
  refine va_get (D := D) (ci := 9) (v := .int t_staged) (C := RX9) (T := TX9) (N := 42) hx hb hts in_X9 hown hK hP 0 rfl rfl 33 (by decide) (hts _ kf_X9_193) (fun _ h9 => h9) rfl dX9_abort_6 ?_
  refine lv_istore_n (lv' := [(1, .int t_staged), (0, .ref t)]) hx hb dX9_abort_9 rfl hl (by decide) rfl (fun ls hl => ?_)
  refine lv_aload_n hx hb dX9_abort_10 rfl (lv_at hl 1 rfl) ?_
  refine lv_iconst (v := (0 : Int32)) hx hb dX9_abort_11 (by decide) ?_
  refine va_put (D := D) (ci := 9) (v := .int (0 : Int32)) (ty := .int) (C := RX9) (T := TX9) (N := 42) hx hb hts in_X9 tyX9 tyX9_ok nmX9 hown hK hP hD hS 0 rfl rfl 33 (by decide) (hts _ kf_X9_193) (fun _ h9 => h9) rfl (by decide +kernel) rfl rfl (Nat.le_of_ble_eq_true rfl) dX9_abort_12 (fun H locs hP hD hS => ?_)
  have hP : va_P D vwCl [(t, .inr (9, [.int (0 : Int32), .ref t_tape_a, .int t_taped, .int t_fault, .int t_faultPlace, .int t_at, .int t_rules, .ref t_firstPart_a, .ref t_partMany_a, .ref t_rulePlace_a, .int t_parts, .ref t_sort_a, .ref t_predicate_a, .ref t_firstTerm_a, .ref t_termMany_a, .ref t_partPlace_a, .int t_terms, .ref t_term_a, .ref t_depends_a, .int t_ruleCount, .ref t_partCount_a, .ref t_partSort_a, .ref t_partPredicate_a, .ref t_partTerms_a, .ref t_termOf_a, .ref t_variableCount_a, .ref t_kind_a, .ref t_width_a, .ref t_stratum_a, .ref t_holds_a, .ref t_held_a, .ref t_kept_a, .int t_changes, .int (0 : Int32), .ref t_stage_a, .int t_logged, .int t_safe, .ref t_logs_a, .ref t_value_a, .int t_wanted, .int t_count, .int t_fresh]))] H := hP
  have hD : va_D A [(t, .inr (9, [.int (0 : Int32), .ref t_tape_a, .int t_taped, .int t_fault, .int t_faultPlace, .int t_at, .int t_rules, .ref t_firstPart_a, .ref t_partMany_a, .ref t_rulePlace_a, .int t_parts, .ref t_sort_a, .ref t_predicate_a, .ref t_firstTerm_a, .ref t_termMany_a, .ref t_partPlace_a, .int t_terms, .ref t_term_a, .ref t_depends_a, .int t_ruleCount, .ref t_partCount_a, .ref t_partSort_a, .ref t_partPredicate_a, .ref t_partTerms_a, .ref t_termOf_a, .ref t_variableCount_a, .ref t_kind_a, .ref t_width_a, .ref t_stratum_a, .ref t_holds_a, .ref t_held_a, .ref t_kept_a, .int t_changes, .int (0 : Int32), .ref t_stage_a, .int t_logged, .int t_safe, .ref t_logs_a, .ref t_value_a, .int t_wanted, .int t_count, .int t_fresh]))] := hD
  refine lv_iload_n hx hb dX9_abort_15 rfl (lv_at hl 0 rfl) ?_
  have ho := Option.some.inj hm
  exact k_iret hx hb hr hlocks hK hP hD hS dX9_abort_16 hQ (by rw [← ho]) (by rw [← ho])
noncomputable def M_Model_holds (t_thrown : Int32) (t_kind : Nat → Int32) (t_width : Nat → Int32) (t_holds : Nat → Int32) (x0 : Int32) (x1 : Int32) (x2 : Int32) (x3 : Int32) : Option ((Int32) × (Int32)) := bd_ (M_Model_place t_kind t_width x0 x1 x2 x3) fun z1 => if z1 = (-1 : Int32) then (some ((0 : Int32), (0 : Int32))) else (gd_ z1 17280 <| if (t_holds z1.toNatClampNeg) = 0 then (some ((0 : Int32), (0 : Int32))) else (some ((1 : Int32), (0 : Int32))))
set_option maxRecDepth 100000 in
set_option maxHeartbeats 4000000 in
theorem K_Model_holds (l : Launch) (D : va_G) (cB cI cZ cJ : ClassId) (t : Nat) (t_tape_a : Nat) (t_firstPart_a : Nat) (t_partMany_a : Nat) (t_rulePlace_a : Nat) (t_sort_a : Nat) (t_predicate_a : Nat) (t_firstTerm_a : Nat) (t_termMany_a : Nat) (t_partPlace_a : Nat) (t_term_a : Nat) (t_depends_a : Nat) (t_partCount_a : Nat) (t_partSort_a : Nat) (t_partPredicate_a : Nat) (t_partTerms_a : Nat) (t_termOf_a : Nat) (t_variableCount_a : Nat) (t_kind_a : Nat) (t_width_a : Nat) (t_stratum_a : Nat) (t_holds_a : Nat) (t_held_a : Nat) (t_kept_a : Nat) (t_stage_a : Nat) (t_logs_a : Nat) (t_value_a : Nat) (t_thrown : Int32) (t_taped : Int32) (t_fault : Int32) (t_faultPlace : Int32) (t_at : Int32) (t_rules : Int32) (t_parts : Int32) (t_terms : Int32) (t_ruleCount : Int32) (t_changes : Int32) (t_staged : Int32) (t_logged : Int32) (t_safe : Int32) (t_wanted : Int32) (t_count : Int32) (t_fresh : Int32) (t_kind : Nat → Int32) (t_width : Nat → Int32) (t_holds : Nat → Int32) (x0 : Int32) (x1 : Int32) (x2 : Int32) (x3 : Int32) (out : (Int32) × (Int32)) (hm : M_Model_holds t_thrown t_kind t_width t_holds x0 x1 x2 x3 = some out) : KC l yX9_holds cX9_holds 6 (some .boolean) { frames := 2, cells := 0, slots := 0, locals := 45 } D (kTy cB cI cZ cJ) [.ref t, .int x0, .int x1, .int x2, .int x3] [(t, .inr (9, [.int t_thrown, .ref t_tape_a, .int t_taped, .int t_fault, .int t_faultPlace, .int t_at, .int t_rules, .ref t_firstPart_a, .ref t_partMany_a, .ref t_rulePlace_a, .int t_parts, .ref t_sort_a, .ref t_predicate_a, .ref t_firstTerm_a, .ref t_termMany_a, .ref t_partPlace_a, .int t_terms, .ref t_term_a, .ref t_depends_a, .int t_ruleCount, .ref t_partCount_a, .ref t_partSort_a, .ref t_partPredicate_a, .ref t_partTerms_a, .ref t_termOf_a, .ref t_variableCount_a, .ref t_kind_a, .ref t_width_a, .ref t_stratum_a, .ref t_holds_a, .ref t_held_a, .ref t_kept_a, .int t_changes, .int t_staged, .ref t_stage_a, .int t_logged, .int t_safe, .ref t_logs_a, .ref t_value_a, .int t_wanted, .int t_count, .int t_fresh])), (t_kind_a, .inl (cI, 10, .inl t_kind)), (t_width_a, .inl (cI, 10, .inl t_width)), (t_holds_a, .inl (cZ, 17280, .inl t_holds))] (some (.int out.1)) [(t, .inr (9, [.int out.2, .ref t_tape_a, .int t_taped, .int t_fault, .int t_faultPlace, .int t_at, .int t_rules, .ref t_firstPart_a, .ref t_partMany_a, .ref t_rulePlace_a, .int t_parts, .ref t_sort_a, .ref t_predicate_a, .ref t_firstTerm_a, .ref t_termMany_a, .ref t_partPlace_a, .int t_terms, .ref t_term_a, .ref t_depends_a, .int t_ruleCount, .ref t_partCount_a, .ref t_partSort_a, .ref t_partPredicate_a, .ref t_partTerms_a, .ref t_termOf_a, .ref t_variableCount_a, .ref t_kind_a, .ref t_width_a, .ref t_stratum_a, .ref t_holds_a, .ref t_held_a, .ref t_kept_a, .int t_changes, .int t_staged, .ref t_stage_a, .int t_logged, .int t_safe, .ref t_logs_a, .ref t_value_a, .int t_wanted, .int t_count, .int t_fresh])), (t_kind_a, .inl (cI, 10, .inl t_kind)), (t_width_a, .inl (cI, 10, .inl t_width)), (t_holds_a, .inl (cZ, 17280, .inl t_holds))] := by
  refine KC.of (by decide +kernel) (Nat.le_of_ble_eq_true rfl) ?_
  intro p e s m below meth c A ls args Q hQ CX hA hK hP hD hl
  obtain ⟨hx, hb, hr, hml, hown, hts, hlocks⟩ := CX
  have hown : s.vm.findClass RX9 = some m.cls := hown
  have hS : va_S A s.heap s.heap [] := va_S.rf
  have hl : lv_has ls 6 [(0, .ref t), (1, .int x0), (2, .int x1), (3, .int x2), (4, .int x3)] := hl
  unfold M_Model_holds at hm
  obtain ⟨H, eH⟩ : ∃ H, H = s.heap := ⟨_, rfl⟩
  obtain ⟨locs, el⟩ : ∃ x : List Loc, x = [] := ⟨_, rfl⟩
  have hP : va_P D vwCl [(t, .inr (9, [.int t_thrown, .ref t_tape_a, .int t_taped, .int t_fault, .int t_faultPlace, .int t_at, .int t_rules, .ref t_firstPart_a, .ref t_partMany_a, .ref t_rulePlace_a, .int t_parts, .ref t_sort_a, .ref t_predicate_a, .ref t_firstTerm_a, .ref t_termMany_a, .ref t_partPlace_a, .int t_terms, .ref t_term_a, .ref t_depends_a, .int t_ruleCount, .ref t_partCount_a, .ref t_partSort_a, .ref t_partPredicate_a, .ref t_partTerms_a, .ref t_termOf_a, .ref t_variableCount_a, .ref t_kind_a, .ref t_width_a, .ref t_stratum_a, .ref t_holds_a, .ref t_held_a, .ref t_kept_a, .int t_changes, .int t_staged, .ref t_stage_a, .int t_logged, .int t_safe, .ref t_logs_a, .ref t_value_a, .int t_wanted, .int t_count, .int t_fresh])), (t_kind_a, .inl (cI, 10, .inl t_kind)), (t_width_a, .inl (cI, 10, .inl t_width)), (t_holds_a, .inl (cZ, 17280, .inl t_holds))] H := eH ▸ hP
  have hS : va_S A s.heap H locs := by rw [eH, el]; exact hS
  suffices hW : W p l e { frames := 2, cells := 0, slots := 0, locals := 45 } s m args below meth c H locs 0 0 Q (F0 m 0 ls []) by rw [eH, el] at hW; exact hW
  clear eH el
  refine lv_aload_n hx hb dX9_holds_0 rfl (lv_at hl 0 rfl) ?_
  refine lv_iconst (v := (0 : Int32)) hx hb dX9_holds_1 (by decide) ?_
  refine va_put (D := D) (ci := 9) (v := .int (0 : Int32)) (ty := .int) (C := RX9) (T := TX9) (N := 42) hx hb hts in_X9 tyX9 tyX9_ok nmX9 hown hK hP hD hS 0 rfl rfl 0 (by decide) (hts _ kf_X9_89) (fun _ h9 => h9) rfl (by decide +kernel) rfl rfl (Nat.le_of_ble_eq_true rfl) dX9_holds_2 (fun H locs hP hD hS => ?_)
  have hP : va_P D vwCl [(t, .inr (9, [.int (0 : Int32), .ref t_tape_a, .int t_taped, .int t_fault, .int t_faultPlace, .int t_at, .int t_rules, .ref t_firstPart_a, .ref t_partMany_a, .ref t_rulePlace_a, .int t_parts, .ref t_sort_a, .ref t_predicate_a, .ref t_firstTerm_a, .ref t_termMany_a, .ref t_partPlace_a, .int t_terms, .ref t_term_a, .ref t_depends_a, .int t_ruleCount, .ref t_partCount_a, .ref t_partSort_a, .ref t_partPredicate_a, .ref t_partTerms_a, .ref t_termOf_a, .ref t_variableCount_a, .ref t_kind_a, .ref t_width_a, .ref t_stratum_a, .ref t_holds_a, .ref t_held_a, .ref t_kept_a, .int t_changes, .int t_staged, .ref t_stage_a, .int t_logged, .int t_safe, .ref t_logs_a, .ref t_value_a, .int t_wanted, .int t_count, .int t_fresh])), (t_kind_a, .inl (cI, 10, .inl t_kind)), (t_width_a, .inl (cI, 10, .inl t_width)), (t_holds_a, .inl (cZ, 17280, .inl t_holds))] H := hP
  have hD : va_D A [(t, .inr (9, [.int (0 : Int32), .ref t_tape_a, .int t_taped, .int t_fault, .int t_faultPlace, .int t_at, .int t_rules, .ref t_firstPart_a, .ref t_partMany_a, .ref t_rulePlace_a, .int t_parts, .ref t_sort_a, .ref t_predicate_a, .ref t_firstTerm_a, .ref t_termMany_a, .ref t_partPlace_a, .int t_terms, .ref t_term_a, .ref t_depends_a, .int t_ruleCount, .ref t_partCount_a, .ref t_partSort_a, .ref t_partPredicate_a, .ref t_partTerms_a, .ref t_termOf_a, .ref t_variableCount_a, .ref t_kind_a, .ref t_width_a, .ref t_stratum_a, .ref t_holds_a, .ref t_held_a, .ref t_kept_a, .int t_changes, .int t_staged, .ref t_stage_a, .int t_logged, .int t_safe, .ref t_logs_a, .ref t_value_a, .int t_wanted, .int t_count, .int t_fresh])), (t_kind_a, .inl (cI, 10, .inl t_kind)), (t_width_a, .inl (cI, 10, .inl t_width)), (t_holds_a, .inl (cZ, 17280, .inl t_holds))] := hD
  refine lv_aload_n hx hb dX9_holds_5 rfl (lv_at hl 0 rfl) ?_
  refine lv_iload_n hx hb dX9_holds_6 rfl (lv_at hl 1 rfl) ?_
  refine lv_iload_n hx hb dX9_holds_7 rfl (lv_at hl 2 rfl) ?_
  refine lv_iload_n hx hb dX9_holds_8 rfl (lv_at hl 3 rfl) ?_
  refine lv_iload hx hb dX9_holds_9 (lv_at hl 4 rfl) ?_
  obtain ⟨z1, hz1, hm⟩ := bd_at hm
  refine k_callV (As := [.int x0, .int x1, .int x2, .int x3]) (rest := []) (wr := [(t_holds_a, .inl (cZ, 17280, .inl t_holds))]) (ws1 := [(t, .inr (9, [.int (0 : Int32), .ref t_tape_a, .int t_taped, .int t_fault, .int t_faultPlace, .int t_at, .int t_rules, .ref t_firstPart_a, .ref t_partMany_a, .ref t_rulePlace_a, .int t_parts, .ref t_sort_a, .ref t_predicate_a, .ref t_firstTerm_a, .ref t_termMany_a, .ref t_partPlace_a, .int t_terms, .ref t_term_a, .ref t_depends_a, .int t_ruleCount, .ref t_partCount_a, .ref t_partSort_a, .ref t_partPredicate_a, .ref t_partTerms_a, .ref t_termOf_a, .ref t_variableCount_a, .ref t_kind_a, .ref t_width_a, .ref t_stratum_a, .ref t_holds_a, .ref t_held_a, .ref t_kept_a, .int t_changes, .int t_staged, .ref t_stage_a, .int t_logged, .int t_safe, .ref t_logs_a, .ref t_value_a, .int t_wanted, .int t_count, .int t_fresh])), (t_kind_a, .inl (cI, 10, .inl t_kind)), (t_width_a, .inl (cI, 10, .inl t_width)), (t_holds_a, .inl (cZ, 17280, .inl t_holds))]) [0, 1, 2] [3] [1, 2, 3, 0] (K_Model_place l D cB cI cZ cJ t t_tape_a t_firstPart_a t_partMany_a t_rulePlace_a t_sort_a t_predicate_a t_firstTerm_a t_termMany_a t_partPlace_a t_term_a t_depends_a t_partCount_a t_partSort_a t_partPredicate_a t_partTerms_a t_termOf_a t_variableCount_a t_kind_a t_width_a t_stratum_a t_holds_a t_held_a t_kept_a t_stage_a t_logs_a t_value_a (0 : Int32) t_taped t_fault t_faultPlace t_at t_rules t_parts t_terms t_ruleCount t_changes t_staged t_logged t_safe t_wanted t_count t_fresh t_kind t_width x0 x1 x2 x3 z1 hz1) mf_X9_place km_X9_250 hx hb hml hown hts hK hP hD hS hA hl.1 ⟨Nat.zero_le _, Nat.zero_le _⟩ dX9_holds_11 rfl rfl (Nat.le_of_ble_eq_true rfl) ⟨⟨rfl, rfl⟩, Nat.le_of_ble_eq_true rfl, Nat.le_of_ble_eq_true rfl⟩ rfl rfl (by decide) rfl rfl rfl rfl (fun H locs hP hD hS => ?_)
  have hP : va_P D vwCl [(t, .inr (9, [.int (0 : Int32), .ref t_tape_a, .int t_taped, .int t_fault, .int t_faultPlace, .int t_at, .int t_rules, .ref t_firstPart_a, .ref t_partMany_a, .ref t_rulePlace_a, .int t_parts, .ref t_sort_a, .ref t_predicate_a, .ref t_firstTerm_a, .ref t_termMany_a, .ref t_partPlace_a, .int t_terms, .ref t_term_a, .ref t_depends_a, .int t_ruleCount, .ref t_partCount_a, .ref t_partSort_a, .ref t_partPredicate_a, .ref t_partTerms_a, .ref t_termOf_a, .ref t_variableCount_a, .ref t_kind_a, .ref t_width_a, .ref t_stratum_a, .ref t_holds_a, .ref t_held_a, .ref t_kept_a, .int t_changes, .int t_staged, .ref t_stage_a, .int t_logged, .int t_safe, .ref t_logs_a, .ref t_value_a, .int t_wanted, .int t_count, .int t_fresh])), (t_kind_a, .inl (cI, 10, .inl t_kind)), (t_width_a, .inl (cI, 10, .inl t_width)), (t_holds_a, .inl (cZ, 17280, .inl t_holds))] H := hP
  have hD : va_D A [(t, .inr (9, [.int (0 : Int32), .ref t_tape_a, .int t_taped, .int t_fault, .int t_faultPlace, .int t_at, .int t_rules, .ref t_firstPart_a, .ref t_partMany_a, .ref t_rulePlace_a, .int t_parts, .ref t_sort_a, .ref t_predicate_a, .ref t_firstTerm_a, .ref t_termMany_a, .ref t_partPlace_a, .int t_terms, .ref t_term_a, .ref t_depends_a, .int t_ruleCount, .ref t_partCount_a, .ref t_partSort_a, .ref t_partPredicate_a, .ref t_partTerms_a, .ref t_termOf_a, .ref t_variableCount_a, .ref t_kind_a, .ref t_width_a, .ref t_stratum_a, .ref t_holds_a, .ref t_held_a, .ref t_kept_a, .int t_changes, .int t_staged, .ref t_stage_a, .int t_logged, .int t_safe, .ref t_logs_a, .ref t_value_a, .int t_wanted, .int t_count, .int t_fresh])), (t_kind_a, .inl (cI, 10, .inl t_kind)), (t_width_a, .inl (cI, 10, .inl t_width)), (t_holds_a, .inl (cZ, 17280, .inl t_holds))] := hD
  refine lv_istore (lv' := [(5, .int z1), (0, .ref t), (1, .int x0), (2, .int x1), (3, .int x2), (4, .int x3)]) hx hb dX9_holds_14 hl (by decide) rfl (fun ls hl => ?_)
  refine lv_iload hx hb dX9_holds_16 (lv_at hl 0 rfl) ?_
  refine lv_iconst (v := (-1 : Int32)) hx hb dX9_holds_18 (by decide) ?_
  refine lv_icmp_eq (tgt := 36) hx hb dX9_holds_19 (by decide) (fun hc => ?_) (fun hc => ?_)
  · have hm := if_t hc hm
    refine lv_iconst (v := (0 : Int32)) hx hb dX9_holds_36 (by decide) ?_
    have ho := Option.some.inj hm
    exact k_zret (by decide +kernel) hx hb hr hlocks hK hP hD hS dX9_holds_37 hQ (by rw [← ho]) (by rw [← ho])
  · have hm := if_f hc hm
    refine lv_aload_n hx hb dX9_holds_22 rfl (lv_at hl 1 rfl) ?_
    refine va_get (D := D) (ci := 9) (v := .ref t_holds_a) (C := RX9) (T := TX9) (N := 42) hx hb hts in_X9 hown hK hP 0 rfl rfl 29 (by decide) (hts _ kf_X9_71) (fun _ h9 => h9) rfl dX9_holds_23 ?_
    refine lv_iload hx hb dX9_holds_26 (lv_at hl 0 rfl) ?_
    refine va_zald hx hb hK hP 3 2 rfl rfl (gd_in hm) dX9_holds_28 ?_
    have hm := gd_go hm
    refine lv_if_eq (tgt := 36) hx hb dX9_holds_29 (by decide) (fun hc => ?_) (fun hc => ?_)
    · have hm := if_t hc hm
      refine lv_iconst (v := (0 : Int32)) hx hb dX9_holds_36 (by decide) ?_
      have ho := Option.some.inj hm
      exact k_zret (by decide +kernel) hx hb hr hlocks hK hP hD hS dX9_holds_37 hQ (by rw [← ho]) (by rw [← ho])
    · have hm := if_f hc hm
      refine lv_iconst (v := (1 : Int32)) hx hb dX9_holds_32 (by decide) ?_
      refine lv_goto (tgt := 37) hx hb dX9_holds_33 (by decide) ?_
      have ho := Option.some.inj hm
      exact k_zret (by decide +kernel) hx hb hr hlocks hK hP hD hS dX9_holds_37 hQ (by rw [← ho]) (by rw [← ho])
noncomputable def M_Model_factCount_L4 (F : Nat) (t_holds : Nat → Int32) (w1 : Int32) : Nat → Int32 → Int32 → Option ((Int32))
  | 0, _, _ => none
  | n + 1, y3, y2 => if (1728 : Int32) ≤ y3 then (some y2) else (gd_ (((1728 : Int32) * w1) + y3) 17280 <| lt_ ((t_holds (((1728 : Int32) * w1) + y3).toNatClampNeg)) fun v1 => if v1 = 0 then (lt_ ((y2 + (0 : Int32))) fun v2 => lt_ (y3 + (1 : Int32)) fun v3 => M_Model_factCount_L4 F t_holds w1 n v3 v2) else (lt_ ((y2 + (1 : Int32))) fun v4 => lt_ (y3 + (1 : Int32)) fun v5 => M_Model_factCount_L4 F t_holds w1 n v5 v4))
noncomputable def M_Model_factCount (F : Nat) (t_holds : Nat → Int32) (x0 : Int32) : Option ((Int32)) := bd_ (M_Model_factCount_L4 F t_holds x0 F (0 : Int32) (0 : Int32)) fun z6 => some z6
set_option maxRecDepth 100000 in
set_option maxHeartbeats 4000000 in
theorem K_Model_factCount (l : Launch) (D : va_G) (cB cI cZ cJ : ClassId) (t : Nat) (t_tape_a : Nat) (t_firstPart_a : Nat) (t_partMany_a : Nat) (t_rulePlace_a : Nat) (t_sort_a : Nat) (t_predicate_a : Nat) (t_firstTerm_a : Nat) (t_termMany_a : Nat) (t_partPlace_a : Nat) (t_term_a : Nat) (t_depends_a : Nat) (t_partCount_a : Nat) (t_partSort_a : Nat) (t_partPredicate_a : Nat) (t_partTerms_a : Nat) (t_termOf_a : Nat) (t_variableCount_a : Nat) (t_kind_a : Nat) (t_width_a : Nat) (t_stratum_a : Nat) (t_holds_a : Nat) (t_held_a : Nat) (t_kept_a : Nat) (t_stage_a : Nat) (t_logs_a : Nat) (t_value_a : Nat) (t_thrown : Int32) (t_taped : Int32) (t_fault : Int32) (t_faultPlace : Int32) (t_at : Int32) (t_rules : Int32) (t_parts : Int32) (t_terms : Int32) (t_ruleCount : Int32) (t_changes : Int32) (t_staged : Int32) (t_logged : Int32) (t_safe : Int32) (t_wanted : Int32) (t_count : Int32) (t_fresh : Int32) (t_holds : Nat → Int32) (x0 : Int32) (F : Nat) (out : (Int32)) (hm : M_Model_factCount F t_holds x0 = some out) : KC l yX9_factCount cX9_factCount 4 (some .int) { frames := 0, cells := 0, slots := 0, locals := 0 } D (kTy cB cI cZ cJ) [.ref t, .int x0] [(t, .inr (9, [.int t_thrown, .ref t_tape_a, .int t_taped, .int t_fault, .int t_faultPlace, .int t_at, .int t_rules, .ref t_firstPart_a, .ref t_partMany_a, .ref t_rulePlace_a, .int t_parts, .ref t_sort_a, .ref t_predicate_a, .ref t_firstTerm_a, .ref t_termMany_a, .ref t_partPlace_a, .int t_terms, .ref t_term_a, .ref t_depends_a, .int t_ruleCount, .ref t_partCount_a, .ref t_partSort_a, .ref t_partPredicate_a, .ref t_partTerms_a, .ref t_termOf_a, .ref t_variableCount_a, .ref t_kind_a, .ref t_width_a, .ref t_stratum_a, .ref t_holds_a, .ref t_held_a, .ref t_kept_a, .int t_changes, .int t_staged, .ref t_stage_a, .int t_logged, .int t_safe, .ref t_logs_a, .ref t_value_a, .int t_wanted, .int t_count, .int t_fresh])), (t_holds_a, .inl (cZ, 17280, .inl t_holds))] (some (.int out)) [(t, .inr (9, [.int t_thrown, .ref t_tape_a, .int t_taped, .int t_fault, .int t_faultPlace, .int t_at, .int t_rules, .ref t_firstPart_a, .ref t_partMany_a, .ref t_rulePlace_a, .int t_parts, .ref t_sort_a, .ref t_predicate_a, .ref t_firstTerm_a, .ref t_termMany_a, .ref t_partPlace_a, .int t_terms, .ref t_term_a, .ref t_depends_a, .int t_ruleCount, .ref t_partCount_a, .ref t_partSort_a, .ref t_partPredicate_a, .ref t_partTerms_a, .ref t_termOf_a, .ref t_variableCount_a, .ref t_kind_a, .ref t_width_a, .ref t_stratum_a, .ref t_holds_a, .ref t_held_a, .ref t_kept_a, .int t_changes, .int t_staged, .ref t_stage_a, .int t_logged, .int t_safe, .ref t_logs_a, .ref t_value_a, .int t_wanted, .int t_count, .int t_fresh])), (t_holds_a, .inl (cZ, 17280, .inl t_holds))] := by
  refine KC.of (by decide +kernel) (Nat.le_of_ble_eq_true rfl) ?_
  intro p e s m below meth c A ls args Q hQ CX hA hK hP hD hl
  obtain ⟨hx, hb, hr, hml, hown, hts, hlocks⟩ := CX
  have hown : s.vm.findClass RX9 = some m.cls := hown
  have hS : va_S A s.heap s.heap [] := va_S.rf
  have hl : lv_has ls 4 [(0, .ref t), (1, .int x0)] := hl
  have L4 : ∀ (w1 : Int32) (n : Nat) (y3 : Int32) (y2 : Int32) (z : ((Int32))), M_Model_factCount_L4 F t_holds w1 n y3 y2 = some z →
      (∀ (H : Heap) (locs : List Loc) (ls : Array Slot), va_P D vwCl [(t, .inr (9, [.int t_thrown, .ref t_tape_a, .int t_taped, .int t_fault, .int t_faultPlace, .int t_at, .int t_rules, .ref t_firstPart_a, .ref t_partMany_a, .ref t_rulePlace_a, .int t_parts, .ref t_sort_a, .ref t_predicate_a, .ref t_firstTerm_a, .ref t_termMany_a, .ref t_partPlace_a, .int t_terms, .ref t_term_a, .ref t_depends_a, .int t_ruleCount, .ref t_partCount_a, .ref t_partSort_a, .ref t_partPredicate_a, .ref t_partTerms_a, .ref t_termOf_a, .ref t_variableCount_a, .ref t_kind_a, .ref t_width_a, .ref t_stratum_a, .ref t_holds_a, .ref t_held_a, .ref t_kept_a, .int t_changes, .int t_staged, .ref t_stage_a, .int t_logged, .int t_safe, .ref t_logs_a, .ref t_value_a, .int t_wanted, .int t_count, .int t_fresh])), (t_holds_a, .inl (cZ, 17280, .inl t_holds))] H → va_D A [(t, .inr (9, [.int t_thrown, .ref t_tape_a, .int t_taped, .int t_fault, .int t_faultPlace, .int t_at, .int t_rules, .ref t_firstPart_a, .ref t_partMany_a, .ref t_rulePlace_a, .int t_parts, .ref t_sort_a, .ref t_predicate_a, .ref t_firstTerm_a, .ref t_termMany_a, .ref t_partPlace_a, .int t_terms, .ref t_term_a, .ref t_depends_a, .int t_ruleCount, .ref t_partCount_a, .ref t_partSort_a, .ref t_partPredicate_a, .ref t_partTerms_a, .ref t_termOf_a, .ref t_variableCount_a, .ref t_kind_a, .ref t_width_a, .ref t_stratum_a, .ref t_holds_a, .ref t_held_a, .ref t_kept_a, .int t_changes, .int t_staged, .ref t_stage_a, .int t_logged, .int t_safe, .ref t_logs_a, .ref t_value_a, .int t_wanted, .int t_count, .int t_fresh])), (t_holds_a, .inl (cZ, 17280, .inl t_holds))] → va_S A s.heap H locs → lv_has ls 4 [(2, .int z)] → W p l e { frames := 0, cells := 0, slots := 0, locals := 0 } s m args below meth c H locs 0 0 Q (F0 m 40 ls [])) →
      ∀ (H : Heap) (locs : List Loc) (ls : Array Slot), va_P D vwCl [(t, .inr (9, [.int t_thrown, .ref t_tape_a, .int t_taped, .int t_fault, .int t_faultPlace, .int t_at, .int t_rules, .ref t_firstPart_a, .ref t_partMany_a, .ref t_rulePlace_a, .int t_parts, .ref t_sort_a, .ref t_predicate_a, .ref t_firstTerm_a, .ref t_termMany_a, .ref t_partPlace_a, .int t_terms, .ref t_term_a, .ref t_depends_a, .int t_ruleCount, .ref t_partCount_a, .ref t_partSort_a, .ref t_partPredicate_a, .ref t_partTerms_a, .ref t_termOf_a, .ref t_variableCount_a, .ref t_kind_a, .ref t_width_a, .ref t_stratum_a, .ref t_holds_a, .ref t_held_a, .ref t_kept_a, .int t_changes, .int t_staged, .ref t_stage_a, .int t_logged, .int t_safe, .ref t_logs_a, .ref t_value_a, .int t_wanted, .int t_count, .int t_fresh])), (t_holds_a, .inl (cZ, 17280, .inl t_holds))] H → va_D A [(t, .inr (9, [.int t_thrown, .ref t_tape_a, .int t_taped, .int t_fault, .int t_faultPlace, .int t_at, .int t_rules, .ref t_firstPart_a, .ref t_partMany_a, .ref t_rulePlace_a, .int t_parts, .ref t_sort_a, .ref t_predicate_a, .ref t_firstTerm_a, .ref t_termMany_a, .ref t_partPlace_a, .int t_terms, .ref t_term_a, .ref t_depends_a, .int t_ruleCount, .ref t_partCount_a, .ref t_partSort_a, .ref t_partPredicate_a, .ref t_partTerms_a, .ref t_termOf_a, .ref t_variableCount_a, .ref t_kind_a, .ref t_width_a, .ref t_stratum_a, .ref t_holds_a, .ref t_held_a, .ref t_kept_a, .int t_changes, .int t_staged, .ref t_stage_a, .int t_logged, .int t_safe, .ref t_logs_a, .ref t_value_a, .int t_wanted, .int t_count, .int t_fresh])), (t_holds_a, .inl (cZ, 17280, .inl t_holds))] → va_S A s.heap H locs → lv_has ls 4 [(3, .int y3), (2, .int y2), (0, .ref t), (1, .int w1)] → W p l e { frames := 0, cells := 0, slots := 0, locals := 0 } s m args below meth c H locs 0 0 Q (F0 m 4 ls []) := by
    intro w1 n
    induction n with
    | zero => intro y3 y2 z hm; unfold M_Model_factCount_L4 at hm; cases hm
    | succ n ih =>
      intro y3 y2 z hm hE H locs ls hP hD hS hl
      unfold M_Model_factCount_L4 at hm
      refine lv_iload_n hx hb dX9_factCount_4 rfl (lv_at hl 0 rfl) ?_
      refine lv_sipush (v := (1728 : Int32)) hx hb dX9_factCount_5 (by decide) ?_
      refine lv_icmp_ge (tgt := 40) hx hb dX9_factCount_8 (by decide) (fun hc => ?_) (fun hc => ?_)
      · have hm := if_t hc hm
        cases hm
        exact hE H locs ls hP hD hS (lv_sub hl [1] rfl)
      · have hm := if_f hc hm
        refine lv_iload_n hx hb dX9_factCount_11 rfl (lv_at hl 1 rfl) ?_
        refine lv_aload_n hx hb dX9_factCount_12 rfl (lv_at hl 2 rfl) ?_
        refine va_get (D := D) (ci := 9) (v := .ref t_holds_a) (C := RX9) (T := TX9) (N := 42) hx hb hts in_X9 hown hK hP 0 rfl rfl 29 (by decide) (hts _ kf_X9_71) (fun _ h9 => h9) rfl dX9_factCount_13 ?_
        refine lv_sipush (v := (1728 : Int32)) hx hb dX9_factCount_16 (by decide) ?_
        refine lv_iload_n hx hb dX9_factCount_19 rfl (lv_at hl 3 rfl) ?_
        refine lv_imul hx hb dX9_factCount_20 ?_
        refine lv_iload_n hx hb dX9_factCount_21 rfl (lv_at hl 0 rfl) ?_
        refine lv_iadd hx hb dX9_factCount_22 ?_
        refine va_zald hx hb hK hP 1 2 rfl rfl (gd_in hm) dX9_factCount_23 ?_
        have hm := gd_go hm
        refine lv_topi (fun v1 ev1 => ?_)
        have hm := lt_at ev1 hm
        refine lv_if_eq (tgt := 31) hx hb dX9_factCount_24 (by decide) (fun hc => ?_) (fun hc => ?_)
        · have hm := if_t hc hm
          refine lv_iconst (v := (0 : Int32)) hx hb dX9_factCount_31 (by decide) ?_
          refine lv_iadd hx hb dX9_factCount_32 ?_
          refine lv_topi (fun v2 ev2 => ?_)
          have hm := lt_at ev2 hm
          refine lv_istore_n (lv' := [(2, .int v2), (3, .int y3), (0, .ref t), (1, .int w1)]) hx hb dX9_factCount_33 rfl hl (by decide) rfl (fun ls hl => ?_)
          obtain ⟨v3, ev3⟩ : ∃ y : Int32, y = y3 + (1 : Int32) := ⟨_, rfl⟩
          have hm := lt_at ev3 hm
          refine lv_iinc (v := v3) (lv' := [(3, .int v3), (2, .int v2), (0, .ref t), (1, .int w1)]) hx hb dX9_factCount_34 hl (k := 1) rfl (by rw [ev3]; rfl) (by decide) rfl (fun ls hl => ?_)
          refine lv_goto (tgt := 4) hx hb dX9_factCount_37 (by decide) ?_
          exact ih v3 v2 z hm hE H locs ls hP hD hS (lv_sub hl [0, 1, 2, 3] rfl)
        · have hm := if_f hc hm
          refine lv_iconst (v := (1 : Int32)) hx hb dX9_factCount_27 (by decide) ?_
          refine lv_goto (tgt := 32) hx hb dX9_factCount_28 (by decide) ?_
          refine lv_iadd hx hb dX9_factCount_32 ?_
          refine lv_topi (fun v4 ev4 => ?_)
          have hm := lt_at ev4 hm
          refine lv_istore_n (lv' := [(2, .int v4), (3, .int y3), (0, .ref t), (1, .int w1)]) hx hb dX9_factCount_33 rfl hl (by decide) rfl (fun ls hl => ?_)
          obtain ⟨v5, ev5⟩ : ∃ y : Int32, y = y3 + (1 : Int32) := ⟨_, rfl⟩
          have hm := lt_at ev5 hm
          refine lv_iinc (v := v5) (lv' := [(3, .int v5), (2, .int v4), (0, .ref t), (1, .int w1)]) hx hb dX9_factCount_34 hl (k := 1) rfl (by rw [ev5]; rfl) (by decide) rfl (fun ls hl => ?_)
          refine lv_goto (tgt := 4) hx hb dX9_factCount_37 (by decide) ?_
          exact ih v5 v4 z hm hE H locs ls hP hD hS (lv_sub hl [0, 1, 2, 3] rfl)
  unfold M_Model_factCount at hm
  obtain ⟨H, eH⟩ : ∃ H, H = s.heap := ⟨_, rfl⟩
  obtain ⟨locs, el⟩ : ∃ x : List Loc, x = [] := ⟨_, rfl⟩
  have hP : va_P D vwCl [(t, .inr (9, [.int t_thrown, .ref t_tape_a, .int t_taped, .int t_fault, .int t_faultPlace, .int t_at, .int t_rules, .ref t_firstPart_a, .ref t_partMany_a, .ref t_rulePlace_a, .int t_parts, .ref t_sort_a, .ref t_predicate_a, .ref t_firstTerm_a, .ref t_termMany_a, .ref t_partPlace_a, .int t_terms, .ref t_term_a, .ref t_depends_a, .int t_ruleCount, .ref t_partCount_a, .ref t_partSort_a, .ref t_partPredicate_a, .ref t_partTerms_a, .ref t_termOf_a, .ref t_variableCount_a, .ref t_kind_a, .ref t_width_a, .ref t_stratum_a, .ref t_holds_a, .ref t_held_a, .ref t_kept_a, .int t_changes, .int t_staged, .ref t_stage_a, .int t_logged, .int t_safe, .ref t_logs_a, .ref t_value_a, .int t_wanted, .int t_count, .int t_fresh])), (t_holds_a, .inl (cZ, 17280, .inl t_holds))] H := eH ▸ hP
  have hS : va_S A s.heap H locs := by rw [eH, el]; exact hS
  suffices hW : W p l e { frames := 0, cells := 0, slots := 0, locals := 0 } s m args below meth c H locs 0 0 Q (F0 m 0 ls []) by rw [eH, el] at hW; exact hW
  clear eH el
  refine lv_iconst (v := (0 : Int32)) hx hb dX9_factCount_0 (by decide) ?_
  refine lv_istore_n (lv' := [(2, .int (0 : Int32)), (0, .ref t), (1, .int x0)]) hx hb dX9_factCount_1 rfl hl (by decide) rfl (fun ls hl => ?_)
  refine lv_iconst (v := (0 : Int32)) hx hb dX9_factCount_2 (by decide) ?_
  refine lv_istore_n (lv' := [(3, .int (0 : Int32)), (2, .int (0 : Int32)), (0, .ref t), (1, .int x0)]) hx hb dX9_factCount_3 rfl hl (by decide) rfl (fun ls hl => ?_)
  obtain ⟨z6, hz6, hm⟩ := bd_at hm
  refine L4 x0 F (0 : Int32) (0 : Int32) z6 hz6 (fun H locs ls hP hD hS hl => ?_) H locs ls hP hD hS (lv_sub hl [0, 1, 2, 3] rfl)
  refine lv_iload_n hx hb dX9_factCount_40 rfl (lv_at hl 0 rfl) ?_
  have ho := Option.some.inj hm
  exact k_iret hx hb hr hlocks hK hP hD hS dX9_factCount_41 hQ (by rw [← ho]) rfl
noncomputable def M_Model_predicate (F : Nat) (t_thrown : Int32) (t_kind : Nat → Int32) (t_width : Nat → Int32) (t_stratum : Nat → Int32) (t_holds : Nat → Int32) (x0 : Int32) (x1 : Int32) : Option ((Int32) × (Int32)) := if x0 < 0 then (some ((-1 : Int32), (0 : Int32))) else (if (10 : Int32) ≤ x0 then (some ((-1 : Int32), (0 : Int32))) else (if x1 < 0 then (some ((-1 : Int32), (0 : Int32))) else (if x1 ≤ (3 : Int32) then (if x1 = 0 then (gd_ x0 10 <| some ((t_kind x0.toNatClampNeg), (0 : Int32))) else (if x1 = (1 : Int32) then (gd_ x0 10 <| some ((t_width x0.toNatClampNeg), (0 : Int32))) else (if x1 = (2 : Int32) then (gd_ x0 10 <| some ((t_stratum x0.toNatClampNeg), (0 : Int32))) else (bd_ (M_Model_factCount F t_holds x0) fun z1 => some (z1, (0 : Int32)))))) else (some ((-1 : Int32), (0 : Int32))))))
set_option maxRecDepth 100000 in
set_option maxHeartbeats 4000000 in
theorem K_Model_predicate (l : Launch) (D : va_G) (cB cI cZ cJ : ClassId) (t : Nat) (t_tape_a : Nat) (t_firstPart_a : Nat) (t_partMany_a : Nat) (t_rulePlace_a : Nat) (t_sort_a : Nat) (t_predicate_a : Nat) (t_firstTerm_a : Nat) (t_termMany_a : Nat) (t_partPlace_a : Nat) (t_term_a : Nat) (t_depends_a : Nat) (t_partCount_a : Nat) (t_partSort_a : Nat) (t_partPredicate_a : Nat) (t_partTerms_a : Nat) (t_termOf_a : Nat) (t_variableCount_a : Nat) (t_kind_a : Nat) (t_width_a : Nat) (t_stratum_a : Nat) (t_holds_a : Nat) (t_held_a : Nat) (t_kept_a : Nat) (t_stage_a : Nat) (t_logs_a : Nat) (t_value_a : Nat) (t_thrown : Int32) (t_taped : Int32) (t_fault : Int32) (t_faultPlace : Int32) (t_at : Int32) (t_rules : Int32) (t_parts : Int32) (t_terms : Int32) (t_ruleCount : Int32) (t_changes : Int32) (t_staged : Int32) (t_logged : Int32) (t_safe : Int32) (t_wanted : Int32) (t_count : Int32) (t_fresh : Int32) (t_kind : Nat → Int32) (t_width : Nat → Int32) (t_stratum : Nat → Int32) (t_holds : Nat → Int32) (x0 : Int32) (x1 : Int32) (F : Nat) (out : (Int32) × (Int32)) (hm : M_Model_predicate F t_thrown t_kind t_width t_stratum t_holds x0 x1 = some out) : KC l yX9_predicate cX9_predicate 3 (some .int) { frames := 1, cells := 0, slots := 0, locals := 23 } D (kTy cB cI cZ cJ) [.ref t, .int x0, .int x1] [(t, .inr (9, [.int t_thrown, .ref t_tape_a, .int t_taped, .int t_fault, .int t_faultPlace, .int t_at, .int t_rules, .ref t_firstPart_a, .ref t_partMany_a, .ref t_rulePlace_a, .int t_parts, .ref t_sort_a, .ref t_predicate_a, .ref t_firstTerm_a, .ref t_termMany_a, .ref t_partPlace_a, .int t_terms, .ref t_term_a, .ref t_depends_a, .int t_ruleCount, .ref t_partCount_a, .ref t_partSort_a, .ref t_partPredicate_a, .ref t_partTerms_a, .ref t_termOf_a, .ref t_variableCount_a, .ref t_kind_a, .ref t_width_a, .ref t_stratum_a, .ref t_holds_a, .ref t_held_a, .ref t_kept_a, .int t_changes, .int t_staged, .ref t_stage_a, .int t_logged, .int t_safe, .ref t_logs_a, .ref t_value_a, .int t_wanted, .int t_count, .int t_fresh])), (t_kind_a, .inl (cI, 10, .inl t_kind)), (t_width_a, .inl (cI, 10, .inl t_width)), (t_stratum_a, .inl (cI, 10, .inl t_stratum)), (t_holds_a, .inl (cZ, 17280, .inl t_holds))] (some (.int out.1)) [(t, .inr (9, [.int out.2, .ref t_tape_a, .int t_taped, .int t_fault, .int t_faultPlace, .int t_at, .int t_rules, .ref t_firstPart_a, .ref t_partMany_a, .ref t_rulePlace_a, .int t_parts, .ref t_sort_a, .ref t_predicate_a, .ref t_firstTerm_a, .ref t_termMany_a, .ref t_partPlace_a, .int t_terms, .ref t_term_a, .ref t_depends_a, .int t_ruleCount, .ref t_partCount_a, .ref t_partSort_a, .ref t_partPredicate_a, .ref t_partTerms_a, .ref t_termOf_a, .ref t_variableCount_a, .ref t_kind_a, .ref t_width_a, .ref t_stratum_a, .ref t_holds_a, .ref t_held_a, .ref t_kept_a, .int t_changes, .int t_staged, .ref t_stage_a, .int t_logged, .int t_safe, .ref t_logs_a, .ref t_value_a, .int t_wanted, .int t_count, .int t_fresh])), (t_kind_a, .inl (cI, 10, .inl t_kind)), (t_width_a, .inl (cI, 10, .inl t_width)), (t_stratum_a, .inl (cI, 10, .inl t_stratum)), (t_holds_a, .inl (cZ, 17280, .inl t_holds))] := by
  refine KC.of (by decide +kernel) (Nat.le_of_ble_eq_true rfl) ?_
  intro p e s m below meth c A ls args Q hQ CX hA hK hP hD hl
  obtain ⟨hx, hb, hr, hml, hown, hts, hlocks⟩ := CX
  have hown : s.vm.findClass RX9 = some m.cls := hown
  have hS : va_S A s.heap s.heap [] := va_S.rf
  have hl : lv_has ls 3 [(0, .ref t), (1, .int x0), (2, .int x1)] := hl
  unfold M_Model_predicate at hm
  obtain ⟨H, eH⟩ : ∃ H, H = s.heap := ⟨_, rfl⟩
  obtain ⟨locs, el⟩ : ∃ x : List Loc, x = [] := ⟨_, rfl⟩
  have hP : va_P D vwCl [(t, .inr (9, [.int t_thrown, .ref t_tape_a, .int t_taped, .int t_fault, .int t_faultPlace, .int t_at, .int t_rules, .ref t_firstPart_a, .ref t_partMany_a, .ref t_rulePlace_a, .int t_parts, .ref t_sort_a, .ref t_predicate_a, .ref t_firstTerm_a, .ref t_termMany_a, .ref t_partPlace_a, .int t_terms, .ref t_term_a, .ref t_depends_a, .int t_ruleCount, .ref t_partCount_a, .ref t_partSort_a, .ref t_partPredicate_a, .ref t_partTerms_a, .ref t_termOf_a, .ref t_variableCount_a, .ref t_kind_a, .ref t_width_a, .ref t_stratum_a, .ref t_holds_a, .ref t_held_a, .ref t_kept_a, .int t_changes, .int t_staged, .ref t_stage_a, .int t_logged, .int t_safe, .ref t_logs_a, .ref t_value_a, .int t_wanted, .int t_count, .int t_fresh])), (t_kind_a, .inl (cI, 10, .inl t_kind)), (t_width_a, .inl (cI, 10, .inl t_width)), (t_stratum_a, .inl (cI, 10, .inl t_stratum)), (t_holds_a, .inl (cZ, 17280, .inl t_holds))] H := eH ▸ hP
  have hS : va_S A s.heap H locs := by rw [eH, el]; exact hS
  suffices hW : W p l e { frames := 1, cells := 0, slots := 0, locals := 23 } s m args below meth c H locs 0 0 Q (F0 m 0 ls []) by rw [eH, el] at hW; exact hW
  clear eH el
  refine lv_aload_n hx hb dX9_predicate_0 rfl (lv_at hl 0 rfl) ?_
  refine lv_iconst (v := (0 : Int32)) hx hb dX9_predicate_1 (by decide) ?_
  refine va_put (D := D) (ci := 9) (v := .int (0 : Int32)) (ty := .int) (C := RX9) (T := TX9) (N := 42) hx hb hts in_X9 tyX9 tyX9_ok nmX9 hown hK hP hD hS 0 rfl rfl 0 (by decide) (hts _ kf_X9_89) (fun _ h9 => h9) rfl (by decide +kernel) rfl rfl (Nat.le_of_ble_eq_true rfl) dX9_predicate_2 (fun H locs hP hD hS => ?_)
  have hP : va_P D vwCl [(t, .inr (9, [.int (0 : Int32), .ref t_tape_a, .int t_taped, .int t_fault, .int t_faultPlace, .int t_at, .int t_rules, .ref t_firstPart_a, .ref t_partMany_a, .ref t_rulePlace_a, .int t_parts, .ref t_sort_a, .ref t_predicate_a, .ref t_firstTerm_a, .ref t_termMany_a, .ref t_partPlace_a, .int t_terms, .ref t_term_a, .ref t_depends_a, .int t_ruleCount, .ref t_partCount_a, .ref t_partSort_a, .ref t_partPredicate_a, .ref t_partTerms_a, .ref t_termOf_a, .ref t_variableCount_a, .ref t_kind_a, .ref t_width_a, .ref t_stratum_a, .ref t_holds_a, .ref t_held_a, .ref t_kept_a, .int t_changes, .int t_staged, .ref t_stage_a, .int t_logged, .int t_safe, .ref t_logs_a, .ref t_value_a, .int t_wanted, .int t_count, .int t_fresh])), (t_kind_a, .inl (cI, 10, .inl t_kind)), (t_width_a, .inl (cI, 10, .inl t_width)), (t_stratum_a, .inl (cI, 10, .inl t_stratum)), (t_holds_a, .inl (cZ, 17280, .inl t_holds))] H := hP
  have hD : va_D A [(t, .inr (9, [.int (0 : Int32), .ref t_tape_a, .int t_taped, .int t_fault, .int t_faultPlace, .int t_at, .int t_rules, .ref t_firstPart_a, .ref t_partMany_a, .ref t_rulePlace_a, .int t_parts, .ref t_sort_a, .ref t_predicate_a, .ref t_firstTerm_a, .ref t_termMany_a, .ref t_partPlace_a, .int t_terms, .ref t_term_a, .ref t_depends_a, .int t_ruleCount, .ref t_partCount_a, .ref t_partSort_a, .ref t_partPredicate_a, .ref t_partTerms_a, .ref t_termOf_a, .ref t_variableCount_a, .ref t_kind_a, .ref t_width_a, .ref t_stratum_a, .ref t_holds_a, .ref t_held_a, .ref t_kept_a, .int t_changes, .int t_staged, .ref t_stage_a, .int t_logged, .int t_safe, .ref t_logs_a, .ref t_value_a, .int t_wanted, .int t_count, .int t_fresh])), (t_kind_a, .inl (cI, 10, .inl t_kind)), (t_width_a, .inl (cI, 10, .inl t_width)), (t_stratum_a, .inl (cI, 10, .inl t_stratum)), (t_holds_a, .inl (cZ, 17280, .inl t_holds))] := hD
  refine lv_iload_n hx hb dX9_predicate_5 rfl (lv_at hl 1 rfl) ?_
  refine lv_if_lt (tgt := 24) hx hb dX9_predicate_6 (by decide) (fun hc => ?_) (fun hc => ?_)
  · have hm := if_t hc hm
    refine lv_iconst (v := (-1 : Int32)) hx hb dX9_predicate_24 (by decide) ?_
    have ho := Option.some.inj hm
    exact k_iret hx hb hr hlocks hK hP hD hS dX9_predicate_25 hQ (by rw [← ho]) (by rw [← ho])
  · have hm := if_f hc hm
    refine lv_iload_n hx hb dX9_predicate_9 rfl (lv_at hl 1 rfl) ?_
    refine lv_bipush (v := (10 : Int32)) hx hb dX9_predicate_10 (by decide) ?_
    refine lv_icmp_ge (tgt := 24) hx hb dX9_predicate_12 (by decide) (fun hc => ?_) (fun hc => ?_)
    · have hm := if_t hc hm
      refine lv_iconst (v := (-1 : Int32)) hx hb dX9_predicate_24 (by decide) ?_
      have ho := Option.some.inj hm
      exact k_iret hx hb hr hlocks hK hP hD hS dX9_predicate_25 hQ (by rw [← ho]) (by rw [← ho])
    · have hm := if_f hc hm
      refine lv_iload_n hx hb dX9_predicate_15 rfl (lv_at hl 2 rfl) ?_
      refine lv_if_lt (tgt := 24) hx hb dX9_predicate_16 (by decide) (fun hc => ?_) (fun hc => ?_)
      · have hm := if_t hc hm
        refine lv_iconst (v := (-1 : Int32)) hx hb dX9_predicate_24 (by decide) ?_
        have ho := Option.some.inj hm
        exact k_iret hx hb hr hlocks hK hP hD hS dX9_predicate_25 hQ (by rw [← ho]) (by rw [← ho])
      · have hm := if_f hc hm
        refine lv_iload_n hx hb dX9_predicate_19 rfl (lv_at hl 2 rfl) ?_
        refine lv_iconst (v := (3 : Int32)) hx hb dX9_predicate_20 (by decide) ?_
        refine lv_icmp_le (tgt := 26) hx hb dX9_predicate_21 (by decide) (fun hc => ?_) (fun hc => ?_)
        · have hm := if_t hc hm
          refine lv_iload_n hx hb dX9_predicate_26 rfl (lv_at hl 2 rfl) ?_
          refine lv_if_ne (tgt := 39) hx hb dX9_predicate_27 (by decide) (fun hc => ?_) (fun hc => ?_)
          · have hm := if_f hc hm
            refine lv_iload_n hx hb dX9_predicate_39 rfl (lv_at hl 2 rfl) ?_
            refine lv_iconst (v := (1 : Int32)) hx hb dX9_predicate_40 (by decide) ?_
            refine lv_icmp_ne (tgt := 53) hx hb dX9_predicate_41 (by decide) (fun hc => ?_) (fun hc => ?_)
            · have hm := if_f hc hm
              refine lv_iload_n hx hb dX9_predicate_53 rfl (lv_at hl 2 rfl) ?_
              refine lv_iconst (v := (2 : Int32)) hx hb dX9_predicate_54 (by decide) ?_
              refine lv_icmp_ne (tgt := 67) hx hb dX9_predicate_55 (by decide) (fun hc => ?_) (fun hc => ?_)
              · have hm := if_f hc hm
                refine lv_aload_n hx hb dX9_predicate_67 rfl (lv_at hl 0 rfl) ?_
                refine lv_iload_n hx hb dX9_predicate_68 rfl (lv_at hl 1 rfl) ?_
                obtain ⟨z1, hz1, hm⟩ := bd_at hm
                refine k_callV (As := [.int x0]) (rest := []) (wr := [(t_kind_a, .inl (cI, 10, .inl t_kind)), (t_width_a, .inl (cI, 10, .inl t_width)), (t_stratum_a, .inl (cI, 10, .inl t_stratum))]) (ws1 := [(t, .inr (9, [.int (0 : Int32), .ref t_tape_a, .int t_taped, .int t_fault, .int t_faultPlace, .int t_at, .int t_rules, .ref t_firstPart_a, .ref t_partMany_a, .ref t_rulePlace_a, .int t_parts, .ref t_sort_a, .ref t_predicate_a, .ref t_firstTerm_a, .ref t_termMany_a, .ref t_partPlace_a, .int t_terms, .ref t_term_a, .ref t_depends_a, .int t_ruleCount, .ref t_partCount_a, .ref t_partSort_a, .ref t_partPredicate_a, .ref t_partTerms_a, .ref t_termOf_a, .ref t_variableCount_a, .ref t_kind_a, .ref t_width_a, .ref t_stratum_a, .ref t_holds_a, .ref t_held_a, .ref t_kept_a, .int t_changes, .int t_staged, .ref t_stage_a, .int t_logged, .int t_safe, .ref t_logs_a, .ref t_value_a, .int t_wanted, .int t_count, .int t_fresh])), (t_kind_a, .inl (cI, 10, .inl t_kind)), (t_width_a, .inl (cI, 10, .inl t_width)), (t_stratum_a, .inl (cI, 10, .inl t_stratum)), (t_holds_a, .inl (cZ, 17280, .inl t_holds))]) [0, 4] [1, 2, 3] [3, 0, 1, 2, 4] (K_Model_factCount l D cB cI cZ cJ t t_tape_a t_firstPart_a t_partMany_a t_rulePlace_a t_sort_a t_predicate_a t_firstTerm_a t_termMany_a t_partPlace_a t_term_a t_depends_a t_partCount_a t_partSort_a t_partPredicate_a t_partTerms_a t_termOf_a t_variableCount_a t_kind_a t_width_a t_stratum_a t_holds_a t_held_a t_kept_a t_stage_a t_logs_a t_value_a (0 : Int32) t_taped t_fault t_faultPlace t_at t_rules t_parts t_terms t_ruleCount t_changes t_staged t_logged t_safe t_wanted t_count t_fresh t_holds x0 F z1 hz1) mf_X9_factCount km_X9_260 hx hb hml hown hts hK hP hD hS hA hl.1 ⟨Nat.zero_le _, Nat.zero_le _⟩ dX9_predicate_69 rfl rfl (Nat.le_of_ble_eq_true rfl) ⟨⟨rfl, rfl⟩, Nat.le_of_ble_eq_true rfl, Nat.le_of_ble_eq_true rfl⟩ rfl rfl (by decide) rfl rfl rfl rfl (fun H locs hP hD hS => ?_)
                have hP : va_P D vwCl [(t, .inr (9, [.int (0 : Int32), .ref t_tape_a, .int t_taped, .int t_fault, .int t_faultPlace, .int t_at, .int t_rules, .ref t_firstPart_a, .ref t_partMany_a, .ref t_rulePlace_a, .int t_parts, .ref t_sort_a, .ref t_predicate_a, .ref t_firstTerm_a, .ref t_termMany_a, .ref t_partPlace_a, .int t_terms, .ref t_term_a, .ref t_depends_a, .int t_ruleCount, .ref t_partCount_a, .ref t_partSort_a, .ref t_partPredicate_a, .ref t_partTerms_a, .ref t_termOf_a, .ref t_variableCount_a, .ref t_kind_a, .ref t_width_a, .ref t_stratum_a, .ref t_holds_a, .ref t_held_a, .ref t_kept_a, .int t_changes, .int t_staged, .ref t_stage_a, .int t_logged, .int t_safe, .ref t_logs_a, .ref t_value_a, .int t_wanted, .int t_count, .int t_fresh])), (t_kind_a, .inl (cI, 10, .inl t_kind)), (t_width_a, .inl (cI, 10, .inl t_width)), (t_stratum_a, .inl (cI, 10, .inl t_stratum)), (t_holds_a, .inl (cZ, 17280, .inl t_holds))] H := hP
                have hD : va_D A [(t, .inr (9, [.int (0 : Int32), .ref t_tape_a, .int t_taped, .int t_fault, .int t_faultPlace, .int t_at, .int t_rules, .ref t_firstPart_a, .ref t_partMany_a, .ref t_rulePlace_a, .int t_parts, .ref t_sort_a, .ref t_predicate_a, .ref t_firstTerm_a, .ref t_termMany_a, .ref t_partPlace_a, .int t_terms, .ref t_term_a, .ref t_depends_a, .int t_ruleCount, .ref t_partCount_a, .ref t_partSort_a, .ref t_partPredicate_a, .ref t_partTerms_a, .ref t_termOf_a, .ref t_variableCount_a, .ref t_kind_a, .ref t_width_a, .ref t_stratum_a, .ref t_holds_a, .ref t_held_a, .ref t_kept_a, .int t_changes, .int t_staged, .ref t_stage_a, .int t_logged, .int t_safe, .ref t_logs_a, .ref t_value_a, .int t_wanted, .int t_count, .int t_fresh])), (t_kind_a, .inl (cI, 10, .inl t_kind)), (t_width_a, .inl (cI, 10, .inl t_width)), (t_stratum_a, .inl (cI, 10, .inl t_stratum)), (t_holds_a, .inl (cZ, 17280, .inl t_holds))] := hD
                have ho := Option.some.inj hm
                exact k_iret hx hb hr hlocks hK hP hD hS dX9_predicate_72 hQ (by rw [← ho]) (by rw [← ho])
              · have hm := if_t hc hm
                refine lv_aload_n hx hb dX9_predicate_58 rfl (lv_at hl 0 rfl) ?_
                refine va_get (D := D) (ci := 9) (v := .ref t_stratum_a) (C := RX9) (T := TX9) (N := 42) hx hb hts in_X9 hown hK hP 0 rfl rfl 28 (by decide) (hts _ kf_X9_68) (fun _ h9 => h9) rfl dX9_predicate_59 ?_
                refine lv_iload_n hx hb dX9_predicate_62 rfl (lv_at hl 1 rfl) ?_
                refine va_iald hx hb hK hP 3 1 rfl rfl (gd_in hm) dX9_predicate_63 ?_
                have hm := gd_go hm
                refine lv_goto (tgt := 72) hx hb dX9_predicate_64 (by decide) ?_
                have ho := Option.some.inj hm
                exact k_iret hx hb hr hlocks hK hP hD hS dX9_predicate_72 hQ (by rw [← ho]) (by rw [← ho])
            · have hm := if_t hc hm
              refine lv_aload_n hx hb dX9_predicate_44 rfl (lv_at hl 0 rfl) ?_
              refine va_get (D := D) (ci := 9) (v := .ref t_width_a) (C := RX9) (T := TX9) (N := 42) hx hb hts in_X9 hown hK hP 0 rfl rfl 27 (by decide) (hts _ kf_X9_65) (fun _ h9 => h9) rfl dX9_predicate_45 ?_
              refine lv_iload_n hx hb dX9_predicate_48 rfl (lv_at hl 1 rfl) ?_
              refine va_iald hx hb hK hP 2 1 rfl rfl (gd_in hm) dX9_predicate_49 ?_
              have hm := gd_go hm
              refine lv_goto (tgt := 72) hx hb dX9_predicate_50 (by decide) ?_
              have ho := Option.some.inj hm
              exact k_iret hx hb hr hlocks hK hP hD hS dX9_predicate_72 hQ (by rw [← ho]) (by rw [← ho])
          · have hm := if_t hc hm
            refine lv_aload_n hx hb dX9_predicate_30 rfl (lv_at hl 0 rfl) ?_
            refine va_get (D := D) (ci := 9) (v := .ref t_kind_a) (C := RX9) (T := TX9) (N := 42) hx hb hts in_X9 hown hK hP 0 rfl rfl 26 (by decide) (hts _ kf_X9_62) (fun _ h9 => h9) rfl dX9_predicate_31 ?_
            refine lv_iload_n hx hb dX9_predicate_34 rfl (lv_at hl 1 rfl) ?_
            refine va_iald hx hb hK hP 1 1 rfl rfl (gd_in hm) dX9_predicate_35 ?_
            have hm := gd_go hm
            refine lv_goto (tgt := 72) hx hb dX9_predicate_36 (by decide) ?_
            have ho := Option.some.inj hm
            exact k_iret hx hb hr hlocks hK hP hD hS dX9_predicate_72 hQ (by rw [← ho]) (by rw [← ho])
        · have hm := if_f hc hm
          refine lv_iconst (v := (-1 : Int32)) hx hb dX9_predicate_24 (by decide) ?_
          have ho := Option.some.inj hm
          exact k_iret hx hb hr hlocks hK hP hD hS dX9_predicate_25 hQ (by rw [← ho]) (by rw [← ho])
noncomputable def M_Model_fact_L26 (F : Nat) (c_t_thrown : Int32) (t_holds : Nat → Int32) (w1 : Int32) (w2 : Int32) : Nat → Int32 → Int32 → Option ((Unit) ⊕ ((Int32) × (Int32)))
  | 0, _, _ => none
  | n + 1, y4, y3 => if (1728 : Int32) ≤ y4 then (some (.inl ())) else (gd_ (((1728 : Int32) * w1) + y4) 17280 <| lt_ ((t_holds (((1728 : Int32) * w1) + y4).toNatClampNeg)) fun v1 => if v1 = 0 then (lt_ (y4 + (1 : Int32)) fun v4 => M_Model_fact_L26 F c_t_thrown t_holds w1 w2 n v4 y3) else (if y3 = w2 then (some (.inr (y4, c_t_thrown))) else (lt_ (y3 + (1 : Int32)) fun v2 => lt_ (y4 + (1 : Int32)) fun v3 => M_Model_fact_L26 F c_t_thrown t_holds w1 w2 n v3 v2)))
noncomputable def M_Model_fact (F : Nat) (t_thrown : Int32) (t_holds : Nat → Int32) (x0 : Int32) (x1 : Int32) : Option ((Int32) × (Int32)) := if x0 < 0 then (some ((-1 : Int32), (0 : Int32))) else (if (10 : Int32) ≤ x0 then (some ((-1 : Int32), (0 : Int32))) else (if 0 ≤ x1 then (bd_ (M_Model_fact_L26 F (0 : Int32) t_holds x0 x1 F (0 : Int32) (0 : Int32)) fun z5 => cs_ z5 (fun q6 => some ((-1 : Int32), (0 : Int32))) (fun o => some o)) else (some ((-1 : Int32), (0 : Int32)))))
set_option maxRecDepth 100000 in
set_option maxHeartbeats 4000000 in
theorem K_Model_fact (l : Launch) (D : va_G) (cB cI cZ cJ : ClassId) (t : Nat) (t_tape_a : Nat) (t_firstPart_a : Nat) (t_partMany_a : Nat) (t_rulePlace_a : Nat) (t_sort_a : Nat) (t_predicate_a : Nat) (t_firstTerm_a : Nat) (t_termMany_a : Nat) (t_partPlace_a : Nat) (t_term_a : Nat) (t_depends_a : Nat) (t_partCount_a : Nat) (t_partSort_a : Nat) (t_partPredicate_a : Nat) (t_partTerms_a : Nat) (t_termOf_a : Nat) (t_variableCount_a : Nat) (t_kind_a : Nat) (t_width_a : Nat) (t_stratum_a : Nat) (t_holds_a : Nat) (t_held_a : Nat) (t_kept_a : Nat) (t_stage_a : Nat) (t_logs_a : Nat) (t_value_a : Nat) (t_thrown : Int32) (t_taped : Int32) (t_fault : Int32) (t_faultPlace : Int32) (t_at : Int32) (t_rules : Int32) (t_parts : Int32) (t_terms : Int32) (t_ruleCount : Int32) (t_changes : Int32) (t_staged : Int32) (t_logged : Int32) (t_safe : Int32) (t_wanted : Int32) (t_count : Int32) (t_fresh : Int32) (t_holds : Nat → Int32) (x0 : Int32) (x1 : Int32) (F : Nat) (out : (Int32) × (Int32)) (hm : M_Model_fact F t_thrown t_holds x0 x1 = some out) : KC l yX9_fact cX9_fact 5 (some .int) { frames := 0, cells := 0, slots := 0, locals := 0 } D (kTy cB cI cZ cJ) [.ref t, .int x0, .int x1] [(t, .inr (9, [.int t_thrown, .ref t_tape_a, .int t_taped, .int t_fault, .int t_faultPlace, .int t_at, .int t_rules, .ref t_firstPart_a, .ref t_partMany_a, .ref t_rulePlace_a, .int t_parts, .ref t_sort_a, .ref t_predicate_a, .ref t_firstTerm_a, .ref t_termMany_a, .ref t_partPlace_a, .int t_terms, .ref t_term_a, .ref t_depends_a, .int t_ruleCount, .ref t_partCount_a, .ref t_partSort_a, .ref t_partPredicate_a, .ref t_partTerms_a, .ref t_termOf_a, .ref t_variableCount_a, .ref t_kind_a, .ref t_width_a, .ref t_stratum_a, .ref t_holds_a, .ref t_held_a, .ref t_kept_a, .int t_changes, .int t_staged, .ref t_stage_a, .int t_logged, .int t_safe, .ref t_logs_a, .ref t_value_a, .int t_wanted, .int t_count, .int t_fresh])), (t_holds_a, .inl (cZ, 17280, .inl t_holds))] (some (.int out.1)) [(t, .inr (9, [.int out.2, .ref t_tape_a, .int t_taped, .int t_fault, .int t_faultPlace, .int t_at, .int t_rules, .ref t_firstPart_a, .ref t_partMany_a, .ref t_rulePlace_a, .int t_parts, .ref t_sort_a, .ref t_predicate_a, .ref t_firstTerm_a, .ref t_termMany_a, .ref t_partPlace_a, .int t_terms, .ref t_term_a, .ref t_depends_a, .int t_ruleCount, .ref t_partCount_a, .ref t_partSort_a, .ref t_partPredicate_a, .ref t_partTerms_a, .ref t_termOf_a, .ref t_variableCount_a, .ref t_kind_a, .ref t_width_a, .ref t_stratum_a, .ref t_holds_a, .ref t_held_a, .ref t_kept_a, .int t_changes, .int t_staged, .ref t_stage_a, .int t_logged, .int t_safe, .ref t_logs_a, .ref t_value_a, .int t_wanted, .int t_count, .int t_fresh])), (t_holds_a, .inl (cZ, 17280, .inl t_holds))] := by
  refine KC.of (by decide +kernel) (Nat.le_of_ble_eq_true rfl) ?_
  intro p e s m below meth c A ls args Q hQ CX hA hK hP hD hl
  obtain ⟨hx, hb, hr, hml, hown, hts, hlocks⟩ := CX
  have hown : s.vm.findClass RX9 = some m.cls := hown
  have hS : va_S A s.heap s.heap [] := va_S.rf
  have hl : lv_has ls 5 [(0, .ref t), (1, .int x0), (2, .int x1)] := hl
  have L26 : ∀ (c_t_thrown : Int32) (w1 : Int32) (w2 : Int32) (n : Nat) (y4 : Int32) (y3 : Int32) (z : ((Unit) ⊕ ((Int32) × (Int32)))), M_Model_fact_L26 F c_t_thrown t_holds w1 w2 n y4 y3 = some z →
      (∀ (q : Unit) (H : Heap) (locs : List Loc) (ls : Array Slot), z = .inl q → va_P D vwCl [(t, .inr (9, [.int c_t_thrown, .ref t_tape_a, .int t_taped, .int t_fault, .int t_faultPlace, .int t_at, .int t_rules, .ref t_firstPart_a, .ref t_partMany_a, .ref t_rulePlace_a, .int t_parts, .ref t_sort_a, .ref t_predicate_a, .ref t_firstTerm_a, .ref t_termMany_a, .ref t_partPlace_a, .int t_terms, .ref t_term_a, .ref t_depends_a, .int t_ruleCount, .ref t_partCount_a, .ref t_partSort_a, .ref t_partPredicate_a, .ref t_partTerms_a, .ref t_termOf_a, .ref t_variableCount_a, .ref t_kind_a, .ref t_width_a, .ref t_stratum_a, .ref t_holds_a, .ref t_held_a, .ref t_kept_a, .int t_changes, .int t_staged, .ref t_stage_a, .int t_logged, .int t_safe, .ref t_logs_a, .ref t_value_a, .int t_wanted, .int t_count, .int t_fresh])), (t_holds_a, .inl (cZ, 17280, .inl t_holds))] H → va_D A [(t, .inr (9, [.int c_t_thrown, .ref t_tape_a, .int t_taped, .int t_fault, .int t_faultPlace, .int t_at, .int t_rules, .ref t_firstPart_a, .ref t_partMany_a, .ref t_rulePlace_a, .int t_parts, .ref t_sort_a, .ref t_predicate_a, .ref t_firstTerm_a, .ref t_termMany_a, .ref t_partPlace_a, .int t_terms, .ref t_term_a, .ref t_depends_a, .int t_ruleCount, .ref t_partCount_a, .ref t_partSort_a, .ref t_partPredicate_a, .ref t_partTerms_a, .ref t_termOf_a, .ref t_variableCount_a, .ref t_kind_a, .ref t_width_a, .ref t_stratum_a, .ref t_holds_a, .ref t_held_a, .ref t_kept_a, .int t_changes, .int t_staged, .ref t_stage_a, .int t_logged, .int t_safe, .ref t_logs_a, .ref t_value_a, .int t_wanted, .int t_count, .int t_fresh])), (t_holds_a, .inl (cZ, 17280, .inl t_holds))] → va_S A s.heap H locs → lv_has ls 5 [] → W p l e { frames := 0, cells := 0, slots := 0, locals := 0 } s m args below meth c H locs 0 0 Q (F0 m 70 ls [])) →
      (∀ o, z = .inr o → o = out) →
      ∀ (H : Heap) (locs : List Loc) (ls : Array Slot), va_P D vwCl [(t, .inr (9, [.int c_t_thrown, .ref t_tape_a, .int t_taped, .int t_fault, .int t_faultPlace, .int t_at, .int t_rules, .ref t_firstPart_a, .ref t_partMany_a, .ref t_rulePlace_a, .int t_parts, .ref t_sort_a, .ref t_predicate_a, .ref t_firstTerm_a, .ref t_termMany_a, .ref t_partPlace_a, .int t_terms, .ref t_term_a, .ref t_depends_a, .int t_ruleCount, .ref t_partCount_a, .ref t_partSort_a, .ref t_partPredicate_a, .ref t_partTerms_a, .ref t_termOf_a, .ref t_variableCount_a, .ref t_kind_a, .ref t_width_a, .ref t_stratum_a, .ref t_holds_a, .ref t_held_a, .ref t_kept_a, .int t_changes, .int t_staged, .ref t_stage_a, .int t_logged, .int t_safe, .ref t_logs_a, .ref t_value_a, .int t_wanted, .int t_count, .int t_fresh])), (t_holds_a, .inl (cZ, 17280, .inl t_holds))] H → va_D A [(t, .inr (9, [.int c_t_thrown, .ref t_tape_a, .int t_taped, .int t_fault, .int t_faultPlace, .int t_at, .int t_rules, .ref t_firstPart_a, .ref t_partMany_a, .ref t_rulePlace_a, .int t_parts, .ref t_sort_a, .ref t_predicate_a, .ref t_firstTerm_a, .ref t_termMany_a, .ref t_partPlace_a, .int t_terms, .ref t_term_a, .ref t_depends_a, .int t_ruleCount, .ref t_partCount_a, .ref t_partSort_a, .ref t_partPredicate_a, .ref t_partTerms_a, .ref t_termOf_a, .ref t_variableCount_a, .ref t_kind_a, .ref t_width_a, .ref t_stratum_a, .ref t_holds_a, .ref t_held_a, .ref t_kept_a, .int t_changes, .int t_staged, .ref t_stage_a, .int t_logged, .int t_safe, .ref t_logs_a, .ref t_value_a, .int t_wanted, .int t_count, .int t_fresh])), (t_holds_a, .inl (cZ, 17280, .inl t_holds))] → va_S A s.heap H locs → lv_has ls 5 [(4, .int y4), (3, .int y3), (0, .ref t), (1, .int w1), (2, .int w2)] → W p l e { frames := 0, cells := 0, slots := 0, locals := 0 } s m args below meth c H locs 0 0 Q (F0 m 26 ls []) := by
    intro c_t_thrown w1 w2 n
    induction n with
    | zero => intro y4 y3 z hm; unfold M_Model_fact_L26 at hm; cases hm
    | succ n ih =>
      intro y4 y3 z hm hE hR H locs ls hP hD hS hl
      unfold M_Model_fact_L26 at hm
      refine lv_iload hx hb dX9_fact_26 (lv_at hl 0 rfl) ?_
      refine lv_sipush (v := (1728 : Int32)) hx hb dX9_fact_28 (by decide) ?_
      refine lv_icmp_ge (tgt := 70) hx hb dX9_fact_31 (by decide) (fun hc => ?_) (fun hc => ?_)
      · have hm := if_t hc hm
        exact hE _ H locs ls (Option.some.inj hm).symm hP hD hS (lv_sub hl [] rfl)
      · have hm := if_f hc hm
        refine lv_aload_n hx hb dX9_fact_34 rfl (lv_at hl 2 rfl) ?_
        refine va_get (D := D) (ci := 9) (v := .ref t_holds_a) (C := RX9) (T := TX9) (N := 42) hx hb hts in_X9 hown hK hP 0 rfl rfl 29 (by decide) (hts _ kf_X9_71) (fun _ h9 => h9) rfl dX9_fact_35 ?_
        refine lv_sipush (v := (1728 : Int32)) hx hb dX9_fact_38 (by decide) ?_
        refine lv_iload_n hx hb dX9_fact_41 rfl (lv_at hl 3 rfl) ?_
        refine lv_imul hx hb dX9_fact_42 ?_
        refine lv_iload hx hb dX9_fact_43 (lv_at hl 0 rfl) ?_
        refine lv_iadd hx hb dX9_fact_45 ?_
        refine va_zald hx hb hK hP 1 2 rfl rfl (gd_in hm) dX9_fact_46 ?_
        have hm := gd_go hm
        refine lv_topi (fun v1 ev1 => ?_)
        have hm := lt_at ev1 hm
        refine lv_if_ne (tgt := 53) hx hb dX9_fact_47 (by decide) (fun hc => ?_) (fun hc => ?_)
        · have hm := if_f hc hm
          refine lv_iload_n hx hb dX9_fact_53 rfl (lv_at hl 1 rfl) ?_
          refine lv_iload_n hx hb dX9_fact_54 rfl (lv_at hl 4 rfl) ?_
          refine lv_icmp_ne (tgt := 61) hx hb dX9_fact_55 (by decide) (fun hc => ?_) (fun hc => ?_)
          · have hm := if_f hc hm
            obtain ⟨v2, ev2⟩ : ∃ y : Int32, y = y3 + (1 : Int32) := ⟨_, rfl⟩
            have hm := lt_at ev2 hm
            refine lv_iinc (v := v2) (lv' := [(3, .int v2), (4, .int y4), (0, .ref t), (1, .int w1), (2, .int w2)]) hx hb dX9_fact_61 hl (k := 1) rfl (by rw [ev2]; rfl) (by decide) rfl (fun ls hl => ?_)
            obtain ⟨v3, ev3⟩ : ∃ y : Int32, y = y4 + (1 : Int32) := ⟨_, rfl⟩
            have hm := lt_at ev3 hm
            refine lv_iinc (v := v3) (lv' := [(4, .int v3), (3, .int v2), (0, .ref t), (1, .int w1), (2, .int w2)]) hx hb dX9_fact_64 hl (k := 1) rfl (by rw [ev3]; rfl) (by decide) rfl (fun ls hl => ?_)
            refine lv_goto (tgt := 26) hx hb dX9_fact_67 (by decide) ?_
            exact ih v3 v2 z hm hE hR H locs ls hP hD hS (lv_sub hl [0, 1, 2, 3, 4] rfl)
          · have hm := if_t hc hm
            refine lv_iload hx hb dX9_fact_58 (lv_at hl 0 rfl) ?_
            have ho := hR _ (Option.some.inj hm).symm
            exact k_iret hx hb hr hlocks hK hP hD hS dX9_fact_60 hQ (by rw [← ho]) (by rw [← ho])
        · have hm := if_t hc hm
          refine lv_goto (tgt := 64) hx hb dX9_fact_50 (by decide) ?_
          obtain ⟨v4, ev4⟩ : ∃ y : Int32, y = y4 + (1 : Int32) := ⟨_, rfl⟩
          have hm := lt_at ev4 hm
          refine lv_iinc (v := v4) (lv' := [(4, .int v4), (3, .int y3), (0, .ref t), (1, .int w1), (2, .int w2)]) hx hb dX9_fact_64 hl (k := 0) rfl (by rw [ev4]; rfl) (by decide) rfl (fun ls hl => ?_)
          refine lv_goto (tgt := 26) hx hb dX9_fact_67 (by decide) ?_
          exact ih v4 y3 z hm hE hR H locs ls hP hD hS (lv_sub hl [0, 1, 2, 3, 4] rfl)
  unfold M_Model_fact at hm
  obtain ⟨H, eH⟩ : ∃ H, H = s.heap := ⟨_, rfl⟩
  obtain ⟨locs, el⟩ : ∃ x : List Loc, x = [] := ⟨_, rfl⟩
  have hP : va_P D vwCl [(t, .inr (9, [.int t_thrown, .ref t_tape_a, .int t_taped, .int t_fault, .int t_faultPlace, .int t_at, .int t_rules, .ref t_firstPart_a, .ref t_partMany_a, .ref t_rulePlace_a, .int t_parts, .ref t_sort_a, .ref t_predicate_a, .ref t_firstTerm_a, .ref t_termMany_a, .ref t_partPlace_a, .int t_terms, .ref t_term_a, .ref t_depends_a, .int t_ruleCount, .ref t_partCount_a, .ref t_partSort_a, .ref t_partPredicate_a, .ref t_partTerms_a, .ref t_termOf_a, .ref t_variableCount_a, .ref t_kind_a, .ref t_width_a, .ref t_stratum_a, .ref t_holds_a, .ref t_held_a, .ref t_kept_a, .int t_changes, .int t_staged, .ref t_stage_a, .int t_logged, .int t_safe, .ref t_logs_a, .ref t_value_a, .int t_wanted, .int t_count, .int t_fresh])), (t_holds_a, .inl (cZ, 17280, .inl t_holds))] H := eH ▸ hP
  have hS : va_S A s.heap H locs := by rw [eH, el]; exact hS
  suffices hW : W p l e { frames := 0, cells := 0, slots := 0, locals := 0 } s m args below meth c H locs 0 0 Q (F0 m 0 ls []) by rw [eH, el] at hW; exact hW
  clear eH el
  refine lv_aload_n hx hb dX9_fact_0 rfl (lv_at hl 0 rfl) ?_
  refine lv_iconst (v := (0 : Int32)) hx hb dX9_fact_1 (by decide) ?_
  refine va_put (D := D) (ci := 9) (v := .int (0 : Int32)) (ty := .int) (C := RX9) (T := TX9) (N := 42) hx hb hts in_X9 tyX9 tyX9_ok nmX9 hown hK hP hD hS 0 rfl rfl 0 (by decide) (hts _ kf_X9_89) (fun _ h9 => h9) rfl (by decide +kernel) rfl rfl (Nat.le_of_ble_eq_true rfl) dX9_fact_2 (fun H locs hP hD hS => ?_)
  have hP : va_P D vwCl [(t, .inr (9, [.int (0 : Int32), .ref t_tape_a, .int t_taped, .int t_fault, .int t_faultPlace, .int t_at, .int t_rules, .ref t_firstPart_a, .ref t_partMany_a, .ref t_rulePlace_a, .int t_parts, .ref t_sort_a, .ref t_predicate_a, .ref t_firstTerm_a, .ref t_termMany_a, .ref t_partPlace_a, .int t_terms, .ref t_term_a, .ref t_depends_a, .int t_ruleCount, .ref t_partCount_a, .ref t_partSort_a, .ref t_partPredicate_a, .ref t_partTerms_a, .ref t_termOf_a, .ref t_variableCount_a, .ref t_kind_a, .ref t_width_a, .ref t_stratum_a, .ref t_holds_a, .ref t_held_a, .ref t_kept_a, .int t_changes, .int t_staged, .ref t_stage_a, .int t_logged, .int t_safe, .ref t_logs_a, .ref t_value_a, .int t_wanted, .int t_count, .int t_fresh])), (t_holds_a, .inl (cZ, 17280, .inl t_holds))] H := hP
  have hD : va_D A [(t, .inr (9, [.int (0 : Int32), .ref t_tape_a, .int t_taped, .int t_fault, .int t_faultPlace, .int t_at, .int t_rules, .ref t_firstPart_a, .ref t_partMany_a, .ref t_rulePlace_a, .int t_parts, .ref t_sort_a, .ref t_predicate_a, .ref t_firstTerm_a, .ref t_termMany_a, .ref t_partPlace_a, .int t_terms, .ref t_term_a, .ref t_depends_a, .int t_ruleCount, .ref t_partCount_a, .ref t_partSort_a, .ref t_partPredicate_a, .ref t_partTerms_a, .ref t_termOf_a, .ref t_variableCount_a, .ref t_kind_a, .ref t_width_a, .ref t_stratum_a, .ref t_holds_a, .ref t_held_a, .ref t_kept_a, .int t_changes, .int t_staged, .ref t_stage_a, .int t_logged, .int t_safe, .ref t_logs_a, .ref t_value_a, .int t_wanted, .int t_count, .int t_fresh])), (t_holds_a, .inl (cZ, 17280, .inl t_holds))] := hD
  refine lv_iload_n hx hb dX9_fact_5 rfl (lv_at hl 1 rfl) ?_
  refine lv_if_lt (tgt := 19) hx hb dX9_fact_6 (by decide) (fun hc => ?_) (fun hc => ?_)
  · have hm := if_t hc hm
    refine lv_iconst (v := (-1 : Int32)) hx hb dX9_fact_19 (by decide) ?_
    have ho := Option.some.inj hm
    exact k_iret hx hb hr hlocks hK hP hD hS dX9_fact_20 hQ (by rw [← ho]) (by rw [← ho])
  · have hm := if_f hc hm
    refine lv_iload_n hx hb dX9_fact_9 rfl (lv_at hl 1 rfl) ?_
    refine lv_bipush (v := (10 : Int32)) hx hb dX9_fact_10 (by decide) ?_
    refine lv_icmp_ge (tgt := 19) hx hb dX9_fact_12 (by decide) (fun hc => ?_) (fun hc => ?_)
    · have hm := if_t hc hm
      refine lv_iconst (v := (-1 : Int32)) hx hb dX9_fact_19 (by decide) ?_
      have ho := Option.some.inj hm
      exact k_iret hx hb hr hlocks hK hP hD hS dX9_fact_20 hQ (by rw [← ho]) (by rw [← ho])
    · have hm := if_f hc hm
      refine lv_iload_n hx hb dX9_fact_15 rfl (lv_at hl 2 rfl) ?_
      refine lv_if_ge (tgt := 21) hx hb dX9_fact_16 (by decide) (fun hc => ?_) (fun hc => ?_)
      · have hm := if_t hc hm
        refine lv_iconst (v := (0 : Int32)) hx hb dX9_fact_21 (by decide) ?_
        refine lv_istore_n (lv' := [(3, .int (0 : Int32)), (0, .ref t), (1, .int x0), (2, .int x1)]) hx hb dX9_fact_22 rfl hl (by decide) rfl (fun ls hl => ?_)
        refine lv_iconst (v := (0 : Int32)) hx hb dX9_fact_23 (by decide) ?_
        refine lv_istore (lv' := [(4, .int (0 : Int32)), (3, .int (0 : Int32)), (0, .ref t), (1, .int x0), (2, .int x1)]) hx hb dX9_fact_24 hl (by decide) rfl (fun ls hl => ?_)
        obtain ⟨z5, hz5, hm⟩ := bd_at hm
        refine L26 (0 : Int32) x0 x1 F (0 : Int32) (0 : Int32) z5 hz5 (fun q6 H locs ls ez hP hD hS hl => ?_) (fun o ho => ?_) H locs ls hP hD hS (lv_sub hl [0, 1, 2, 3, 4] rfl)
        · have hm := cs_l ez hm
          refine lv_iconst (v := (-1 : Int32)) hx hb dX9_fact_70 (by decide) ?_
          have ho := Option.some.inj hm
          exact k_iret hx hb hr hlocks hK hP hD hS dX9_fact_71 hQ (by rw [← ho]) (by rw [← ho])
        · have hm := cs_r ho hm
          exact Option.some.inj hm
      · have hm := if_f hc hm
        refine lv_iconst (v := (-1 : Int32)) hx hb dX9_fact_19 (by decide) ?_
        have ho := Option.some.inj hm
        exact k_iret hx hb hr hlocks hK hP hD hS dX9_fact_20 hQ (by rw [← ho]) (by rw [← ho])
noncomputable def M_Model_changed_L32 (F : Nat) (c_t_thrown : Int32) (t_holds : Nat → Int32) (t_held : Nat → Int32) (w1 : Int32) (w2 : Int32) : Nat → Int32 → Int32 → Option ((Unit) ⊕ ((Int32) × (Int32)))
  | 0, _, _ => none
  | n + 1, y4, y3 => if (17280 : Int32) ≤ y4 then (some (.inl ())) else (gd_ y4 17280 <| gd_ y4 17280 <| if (t_holds y4.toNatClampNeg) = (t_held y4.toNatClampNeg) then (lt_ (y4 + (1 : Int32)) fun v3 => M_Model_changed_L32 F c_t_thrown t_holds t_held w1 w2 n v3 y3) else (if y3 = w1 then (if w2 = 0 then (some (.inr ((y4 / (1728 : Int32)), c_t_thrown))) else (if w2 = (1 : Int32) then (some (.inr ((y4 - y4 / (1728 : Int32) * (1728 : Int32)), c_t_thrown))) else (gd_ y4 17280 <| if (t_holds y4.toNatClampNeg) = 0 then (some (.inr ((0 : Int32), c_t_thrown))) else (some (.inr ((1 : Int32), c_t_thrown)))))) else (lt_ (y3 + (1 : Int32)) fun v1 => lt_ (y4 + (1 : Int32)) fun v2 => M_Model_changed_L32 F c_t_thrown t_holds t_held w1 w2 n v2 v1)))
noncomputable def M_Model_changed (F : Nat) (t_thrown : Int32) (t_holds : Nat → Int32) (t_held : Nat → Int32) (t_changes : Int32) (x0 : Int32) (x1 : Int32) : Option ((Int32) × (Int32)) := if t_changes = 0 then (some ((-1 : Int32), (0 : Int32))) else (if x0 < 0 then (some ((-1 : Int32), (0 : Int32))) else (if x1 < 0 then (some ((-1 : Int32), (0 : Int32))) else (if x1 ≤ (2 : Int32) then (bd_ (M_Model_changed_L32 F (0 : Int32) t_holds t_held x0 x1 F (0 : Int32) (0 : Int32)) fun z4 => cs_ z4 (fun q5 => some ((-1 : Int32), (0 : Int32))) (fun o => some o)) else (some ((-1 : Int32), (0 : Int32))))))
set_option maxRecDepth 100000 in
set_option maxHeartbeats 4000000 in
theorem K_Model_changed (l : Launch) (D : va_G) (cB cI cZ cJ : ClassId) (t : Nat) (t_tape_a : Nat) (t_firstPart_a : Nat) (t_partMany_a : Nat) (t_rulePlace_a : Nat) (t_sort_a : Nat) (t_predicate_a : Nat) (t_firstTerm_a : Nat) (t_termMany_a : Nat) (t_partPlace_a : Nat) (t_term_a : Nat) (t_depends_a : Nat) (t_partCount_a : Nat) (t_partSort_a : Nat) (t_partPredicate_a : Nat) (t_partTerms_a : Nat) (t_termOf_a : Nat) (t_variableCount_a : Nat) (t_kind_a : Nat) (t_width_a : Nat) (t_stratum_a : Nat) (t_holds_a : Nat) (t_held_a : Nat) (t_kept_a : Nat) (t_stage_a : Nat) (t_logs_a : Nat) (t_value_a : Nat) (t_thrown : Int32) (t_taped : Int32) (t_fault : Int32) (t_faultPlace : Int32) (t_at : Int32) (t_rules : Int32) (t_parts : Int32) (t_terms : Int32) (t_ruleCount : Int32) (t_changes : Int32) (t_staged : Int32) (t_logged : Int32) (t_safe : Int32) (t_wanted : Int32) (t_count : Int32) (t_fresh : Int32) (t_holds : Nat → Int32) (t_held : Nat → Int32) (x0 : Int32) (x1 : Int32) (F : Nat) (out : (Int32) × (Int32)) (hm : M_Model_changed F t_thrown t_holds t_held t_changes x0 x1 = some out) : KC l yX9_changed cX9_changed 5 (some .int) { frames := 0, cells := 0, slots := 0, locals := 0 } D (kTy cB cI cZ cJ) [.ref t, .int x0, .int x1] [(t, .inr (9, [.int t_thrown, .ref t_tape_a, .int t_taped, .int t_fault, .int t_faultPlace, .int t_at, .int t_rules, .ref t_firstPart_a, .ref t_partMany_a, .ref t_rulePlace_a, .int t_parts, .ref t_sort_a, .ref t_predicate_a, .ref t_firstTerm_a, .ref t_termMany_a, .ref t_partPlace_a, .int t_terms, .ref t_term_a, .ref t_depends_a, .int t_ruleCount, .ref t_partCount_a, .ref t_partSort_a, .ref t_partPredicate_a, .ref t_partTerms_a, .ref t_termOf_a, .ref t_variableCount_a, .ref t_kind_a, .ref t_width_a, .ref t_stratum_a, .ref t_holds_a, .ref t_held_a, .ref t_kept_a, .int t_changes, .int t_staged, .ref t_stage_a, .int t_logged, .int t_safe, .ref t_logs_a, .ref t_value_a, .int t_wanted, .int t_count, .int t_fresh])), (t_holds_a, .inl (cZ, 17280, .inl t_holds)), (t_held_a, .inl (cZ, 17280, .inl t_held))] (some (.int out.1)) [(t, .inr (9, [.int out.2, .ref t_tape_a, .int t_taped, .int t_fault, .int t_faultPlace, .int t_at, .int t_rules, .ref t_firstPart_a, .ref t_partMany_a, .ref t_rulePlace_a, .int t_parts, .ref t_sort_a, .ref t_predicate_a, .ref t_firstTerm_a, .ref t_termMany_a, .ref t_partPlace_a, .int t_terms, .ref t_term_a, .ref t_depends_a, .int t_ruleCount, .ref t_partCount_a, .ref t_partSort_a, .ref t_partPredicate_a, .ref t_partTerms_a, .ref t_termOf_a, .ref t_variableCount_a, .ref t_kind_a, .ref t_width_a, .ref t_stratum_a, .ref t_holds_a, .ref t_held_a, .ref t_kept_a, .int t_changes, .int t_staged, .ref t_stage_a, .int t_logged, .int t_safe, .ref t_logs_a, .ref t_value_a, .int t_wanted, .int t_count, .int t_fresh])), (t_holds_a, .inl (cZ, 17280, .inl t_holds)), (t_held_a, .inl (cZ, 17280, .inl t_held))] := by
  refine KC.of (by decide +kernel) (Nat.le_of_ble_eq_true rfl) ?_
  intro p e s m below meth c A ls args Q hQ CX hA hK hP hD hl
  obtain ⟨hx, hb, hr, hml, hown, hts, hlocks⟩ := CX
  have hown : s.vm.findClass RX9 = some m.cls := hown
  have hS : va_S A s.heap s.heap [] := va_S.rf
  have hl : lv_has ls 5 [(0, .ref t), (1, .int x0), (2, .int x1)] := hl
  have L32 : ∀ (c_t_thrown : Int32) (w1 : Int32) (w2 : Int32) (n : Nat) (y4 : Int32) (y3 : Int32) (z : ((Unit) ⊕ ((Int32) × (Int32)))), M_Model_changed_L32 F c_t_thrown t_holds t_held w1 w2 n y4 y3 = some z →
      (∀ (q : Unit) (H : Heap) (locs : List Loc) (ls : Array Slot), z = .inl q → va_P D vwCl [(t, .inr (9, [.int c_t_thrown, .ref t_tape_a, .int t_taped, .int t_fault, .int t_faultPlace, .int t_at, .int t_rules, .ref t_firstPart_a, .ref t_partMany_a, .ref t_rulePlace_a, .int t_parts, .ref t_sort_a, .ref t_predicate_a, .ref t_firstTerm_a, .ref t_termMany_a, .ref t_partPlace_a, .int t_terms, .ref t_term_a, .ref t_depends_a, .int t_ruleCount, .ref t_partCount_a, .ref t_partSort_a, .ref t_partPredicate_a, .ref t_partTerms_a, .ref t_termOf_a, .ref t_variableCount_a, .ref t_kind_a, .ref t_width_a, .ref t_stratum_a, .ref t_holds_a, .ref t_held_a, .ref t_kept_a, .int t_changes, .int t_staged, .ref t_stage_a, .int t_logged, .int t_safe, .ref t_logs_a, .ref t_value_a, .int t_wanted, .int t_count, .int t_fresh])), (t_holds_a, .inl (cZ, 17280, .inl t_holds)), (t_held_a, .inl (cZ, 17280, .inl t_held))] H → va_D A [(t, .inr (9, [.int c_t_thrown, .ref t_tape_a, .int t_taped, .int t_fault, .int t_faultPlace, .int t_at, .int t_rules, .ref t_firstPart_a, .ref t_partMany_a, .ref t_rulePlace_a, .int t_parts, .ref t_sort_a, .ref t_predicate_a, .ref t_firstTerm_a, .ref t_termMany_a, .ref t_partPlace_a, .int t_terms, .ref t_term_a, .ref t_depends_a, .int t_ruleCount, .ref t_partCount_a, .ref t_partSort_a, .ref t_partPredicate_a, .ref t_partTerms_a, .ref t_termOf_a, .ref t_variableCount_a, .ref t_kind_a, .ref t_width_a, .ref t_stratum_a, .ref t_holds_a, .ref t_held_a, .ref t_kept_a, .int t_changes, .int t_staged, .ref t_stage_a, .int t_logged, .int t_safe, .ref t_logs_a, .ref t_value_a, .int t_wanted, .int t_count, .int t_fresh])), (t_holds_a, .inl (cZ, 17280, .inl t_holds)), (t_held_a, .inl (cZ, 17280, .inl t_held))] → va_S A s.heap H locs → lv_has ls 5 [] → W p l e { frames := 0, cells := 0, slots := 0, locals := 0 } s m args below meth c H locs 0 0 Q (F0 m 117 ls [])) →
      (∀ o, z = .inr o → o = out) →
      ∀ (H : Heap) (locs : List Loc) (ls : Array Slot), va_P D vwCl [(t, .inr (9, [.int c_t_thrown, .ref t_tape_a, .int t_taped, .int t_fault, .int t_faultPlace, .int t_at, .int t_rules, .ref t_firstPart_a, .ref t_partMany_a, .ref t_rulePlace_a, .int t_parts, .ref t_sort_a, .ref t_predicate_a, .ref t_firstTerm_a, .ref t_termMany_a, .ref t_partPlace_a, .int t_terms, .ref t_term_a, .ref t_depends_a, .int t_ruleCount, .ref t_partCount_a, .ref t_partSort_a, .ref t_partPredicate_a, .ref t_partTerms_a, .ref t_termOf_a, .ref t_variableCount_a, .ref t_kind_a, .ref t_width_a, .ref t_stratum_a, .ref t_holds_a, .ref t_held_a, .ref t_kept_a, .int t_changes, .int t_staged, .ref t_stage_a, .int t_logged, .int t_safe, .ref t_logs_a, .ref t_value_a, .int t_wanted, .int t_count, .int t_fresh])), (t_holds_a, .inl (cZ, 17280, .inl t_holds)), (t_held_a, .inl (cZ, 17280, .inl t_held))] H → va_D A [(t, .inr (9, [.int c_t_thrown, .ref t_tape_a, .int t_taped, .int t_fault, .int t_faultPlace, .int t_at, .int t_rules, .ref t_firstPart_a, .ref t_partMany_a, .ref t_rulePlace_a, .int t_parts, .ref t_sort_a, .ref t_predicate_a, .ref t_firstTerm_a, .ref t_termMany_a, .ref t_partPlace_a, .int t_terms, .ref t_term_a, .ref t_depends_a, .int t_ruleCount, .ref t_partCount_a, .ref t_partSort_a, .ref t_partPredicate_a, .ref t_partTerms_a, .ref t_termOf_a, .ref t_variableCount_a, .ref t_kind_a, .ref t_width_a, .ref t_stratum_a, .ref t_holds_a, .ref t_held_a, .ref t_kept_a, .int t_changes, .int t_staged, .ref t_stage_a, .int t_logged, .int t_safe, .ref t_logs_a, .ref t_value_a, .int t_wanted, .int t_count, .int t_fresh])), (t_holds_a, .inl (cZ, 17280, .inl t_holds)), (t_held_a, .inl (cZ, 17280, .inl t_held))] → va_S A s.heap H locs → lv_has ls 5 [(4, .int y4), (3, .int y3), (0, .ref t), (1, .int w1), (2, .int w2)] → W p l e { frames := 0, cells := 0, slots := 0, locals := 0 } s m args below meth c H locs 0 0 Q (F0 m 32 ls []) := by
    intro c_t_thrown w1 w2 n
    induction n with
    | zero => intro y4 y3 z hm; unfold M_Model_changed_L32 at hm; cases hm
    | succ n ih =>
      intro y4 y3 z hm hE hR H locs ls hP hD hS hl
      unfold M_Model_changed_L32 at hm
      refine lv_iload hx hb dX9_changed_32 (lv_at hl 0 rfl) ?_
      refine lv_sipush (v := (17280 : Int32)) hx hb dX9_changed_34 (by decide) ?_
      refine lv_icmp_ge (tgt := 117) hx hb dX9_changed_37 (by decide) (fun hc => ?_) (fun hc => ?_)
      · have hm := if_t hc hm
        exact hE _ H locs ls (Option.some.inj hm).symm hP hD hS (lv_sub hl [] rfl)
      · have hm := if_f hc hm
        refine lv_aload_n hx hb dX9_changed_40 rfl (lv_at hl 2 rfl) ?_
        refine va_get (D := D) (ci := 9) (v := .ref t_holds_a) (C := RX9) (T := TX9) (N := 42) hx hb hts in_X9 hown hK hP 0 rfl rfl 29 (by decide) (hts _ kf_X9_71) (fun _ h9 => h9) rfl dX9_changed_41 ?_
        refine lv_iload hx hb dX9_changed_44 (lv_at hl 0 rfl) ?_
        refine va_zald hx hb hK hP 1 2 rfl rfl (gd_in hm) dX9_changed_46 ?_
        have hm := gd_go hm
        refine lv_aload_n hx hb dX9_changed_47 rfl (lv_at hl 2 rfl) ?_
        refine va_get (D := D) (ci := 9) (v := .ref t_held_a) (C := RX9) (T := TX9) (N := 42) hx hb hts in_X9 hown hK hP 0 rfl rfl 30 (by decide) (hts _ kf_X9_74) (fun _ h9 => h9) rfl dX9_changed_48 ?_
        refine lv_iload hx hb dX9_changed_51 (lv_at hl 0 rfl) ?_
        refine va_zald hx hb hK hP 2 2 rfl rfl (gd_in hm) dX9_changed_53 ?_
        have hm := gd_go hm
        refine lv_icmp_ne (tgt := 60) hx hb dX9_changed_54 (by decide) (fun hc => ?_) (fun hc => ?_)
        · have hm := if_f hc hm
          refine lv_iload_n hx hb dX9_changed_60 rfl (lv_at hl 1 rfl) ?_
          refine lv_iload_n hx hb dX9_changed_61 rfl (lv_at hl 3 rfl) ?_
          refine lv_icmp_ne (tgt := 108) hx hb dX9_changed_62 (by decide) (fun hc => ?_) (fun hc => ?_)
          · have hm := if_f hc hm
            obtain ⟨v1, ev1⟩ : ∃ y : Int32, y = y3 + (1 : Int32) := ⟨_, rfl⟩
            have hm := lt_at ev1 hm
            refine lv_iinc (v := v1) (lv' := [(3, .int v1), (4, .int y4), (0, .ref t), (1, .int w1), (2, .int w2)]) hx hb dX9_changed_108 hl (k := 1) rfl (by rw [ev1]; rfl) (by decide) rfl (fun ls hl => ?_)
            obtain ⟨v2, ev2⟩ : ∃ y : Int32, y = y4 + (1 : Int32) := ⟨_, rfl⟩
            have hm := lt_at ev2 hm
            refine lv_iinc (v := v2) (lv' := [(4, .int v2), (3, .int v1), (0, .ref t), (1, .int w1), (2, .int w2)]) hx hb dX9_changed_111 hl (k := 1) rfl (by rw [ev2]; rfl) (by decide) rfl (fun ls hl => ?_)
            refine lv_goto (tgt := 32) hx hb dX9_changed_114 (by decide) ?_
            exact ih v2 v1 z hm hE hR H locs ls hP hD hS (lv_sub hl [0, 1, 2, 3, 4] rfl)
          · have hm := if_t hc hm
            refine lv_iload_n hx hb dX9_changed_65 rfl (lv_at hl 4 rfl) ?_
            refine lv_if_ne (tgt := 78) hx hb dX9_changed_66 (by decide) (fun hc => ?_) (fun hc => ?_)
            · have hm := if_f hc hm
              refine lv_iload_n hx hb dX9_changed_78 rfl (lv_at hl 4 rfl) ?_
              refine lv_iconst (v := (1 : Int32)) hx hb dX9_changed_79 (by decide) ?_
              refine lv_icmp_ne (tgt := 92) hx hb dX9_changed_80 (by decide) (fun hc => ?_) (fun hc => ?_)
              · have hm := if_f hc hm
                refine lv_aload_n hx hb dX9_changed_92 rfl (lv_at hl 2 rfl) ?_
                refine va_get (D := D) (ci := 9) (v := .ref t_holds_a) (C := RX9) (T := TX9) (N := 42) hx hb hts in_X9 hown hK hP 0 rfl rfl 29 (by decide) (hts _ kf_X9_71) (fun _ h9 => h9) rfl dX9_changed_93 ?_
                refine lv_iload hx hb dX9_changed_96 (lv_at hl 0 rfl) ?_
                refine va_zald hx hb hK hP 1 2 rfl rfl (gd_in hm) dX9_changed_98 ?_
                have hm := gd_go hm
                refine lv_if_eq (tgt := 106) hx hb dX9_changed_99 (by decide) (fun hc => ?_) (fun hc => ?_)
                · have hm := if_t hc hm
                  refine lv_iconst (v := (0 : Int32)) hx hb dX9_changed_106 (by decide) ?_
                  have ho := hR _ (Option.some.inj hm).symm
                  exact k_iret hx hb hr hlocks hK hP hD hS dX9_changed_107 hQ (by rw [← ho]) (by rw [← ho])
                · have hm := if_f hc hm
                  refine lv_iconst (v := (1 : Int32)) hx hb dX9_changed_102 (by decide) ?_
                  refine lv_goto (tgt := 107) hx hb dX9_changed_103 (by decide) ?_
                  have ho := hR _ (Option.some.inj hm).symm
                  exact k_iret hx hb hr hlocks hK hP hD hS dX9_changed_107 hQ (by rw [← ho]) (by rw [← ho])
              · have hm := if_t hc hm
                refine lv_iload hx hb dX9_changed_83 (lv_at hl 0 rfl) ?_
                refine lv_sipush (v := (1728 : Int32)) hx hb dX9_changed_85 (by decide) ?_
                refine lv_irem hx hb dX9_changed_88 (by decide) ?_
                refine lv_goto (tgt := 107) hx hb dX9_changed_89 (by decide) ?_
                have ho := hR _ (Option.some.inj hm).symm
                exact k_iret hx hb hr hlocks hK hP hD hS dX9_changed_107 hQ (by rw [← ho]) (by rw [← ho])
            · have hm := if_t hc hm
              refine lv_iload hx hb dX9_changed_69 (lv_at hl 0 rfl) ?_
              refine lv_sipush (v := (1728 : Int32)) hx hb dX9_changed_71 (by decide) ?_
              refine lv_idiv hx hb dX9_changed_74 (by decide) ?_
              refine lv_goto (tgt := 107) hx hb dX9_changed_75 (by decide) ?_
              have ho := hR _ (Option.some.inj hm).symm
              exact k_iret hx hb hr hlocks hK hP hD hS dX9_changed_107 hQ (by rw [← ho]) (by rw [← ho])
        · have hm := if_t hc hm
          refine lv_goto (tgt := 111) hx hb dX9_changed_57 (by decide) ?_
          obtain ⟨v3, ev3⟩ : ∃ y : Int32, y = y4 + (1 : Int32) := ⟨_, rfl⟩
          have hm := lt_at ev3 hm
          refine lv_iinc (v := v3) (lv' := [(4, .int v3), (3, .int y3), (0, .ref t), (1, .int w1), (2, .int w2)]) hx hb dX9_changed_111 hl (k := 0) rfl (by rw [ev3]; rfl) (by decide) rfl (fun ls hl => ?_)
          refine lv_goto (tgt := 32) hx hb dX9_changed_114 (by decide) ?_
          exact ih v3 y3 z hm hE hR H locs ls hP hD hS (lv_sub hl [0, 1, 2, 3, 4] rfl)
  unfold M_Model_changed at hm
  obtain ⟨H, eH⟩ : ∃ H, H = s.heap := ⟨_, rfl⟩
  obtain ⟨locs, el⟩ : ∃ x : List Loc, x = [] := ⟨_, rfl⟩
  have hP : va_P D vwCl [(t, .inr (9, [.int t_thrown, .ref t_tape_a, .int t_taped, .int t_fault, .int t_faultPlace, .int t_at, .int t_rules, .ref t_firstPart_a, .ref t_partMany_a, .ref t_rulePlace_a, .int t_parts, .ref t_sort_a, .ref t_predicate_a, .ref t_firstTerm_a, .ref t_termMany_a, .ref t_partPlace_a, .int t_terms, .ref t_term_a, .ref t_depends_a, .int t_ruleCount, .ref t_partCount_a, .ref t_partSort_a, .ref t_partPredicate_a, .ref t_partTerms_a, .ref t_termOf_a, .ref t_variableCount_a, .ref t_kind_a, .ref t_width_a, .ref t_stratum_a, .ref t_holds_a, .ref t_held_a, .ref t_kept_a, .int t_changes, .int t_staged, .ref t_stage_a, .int t_logged, .int t_safe, .ref t_logs_a, .ref t_value_a, .int t_wanted, .int t_count, .int t_fresh])), (t_holds_a, .inl (cZ, 17280, .inl t_holds)), (t_held_a, .inl (cZ, 17280, .inl t_held))] H := eH ▸ hP
  have hS : va_S A s.heap H locs := by rw [eH, el]; exact hS
  suffices hW : W p l e { frames := 0, cells := 0, slots := 0, locals := 0 } s m args below meth c H locs 0 0 Q (F0 m 0 ls []) by rw [eH, el] at hW; exact hW
  clear eH el
  refine lv_aload_n hx hb dX9_changed_0 rfl (lv_at hl 0 rfl) ?_
  refine lv_iconst (v := (0 : Int32)) hx hb dX9_changed_1 (by decide) ?_
  refine va_put (D := D) (ci := 9) (v := .int (0 : Int32)) (ty := .int) (C := RX9) (T := TX9) (N := 42) hx hb hts in_X9 tyX9 tyX9_ok nmX9 hown hK hP hD hS 0 rfl rfl 0 (by decide) (hts _ kf_X9_89) (fun _ h9 => h9) rfl (by decide +kernel) rfl rfl (Nat.le_of_ble_eq_true rfl) dX9_changed_2 (fun H locs hP hD hS => ?_)
  have hP : va_P D vwCl [(t, .inr (9, [.int (0 : Int32), .ref t_tape_a, .int t_taped, .int t_fault, .int t_faultPlace, .int t_at, .int t_rules, .ref t_firstPart_a, .ref t_partMany_a, .ref t_rulePlace_a, .int t_parts, .ref t_sort_a, .ref t_predicate_a, .ref t_firstTerm_a, .ref t_termMany_a, .ref t_partPlace_a, .int t_terms, .ref t_term_a, .ref t_depends_a, .int t_ruleCount, .ref t_partCount_a, .ref t_partSort_a, .ref t_partPredicate_a, .ref t_partTerms_a, .ref t_termOf_a, .ref t_variableCount_a, .ref t_kind_a, .ref t_width_a, .ref t_stratum_a, .ref t_holds_a, .ref t_held_a, .ref t_kept_a, .int t_changes, .int t_staged, .ref t_stage_a, .int t_logged, .int t_safe, .ref t_logs_a, .ref t_value_a, .int t_wanted, .int t_count, .int t_fresh])), (t_holds_a, .inl (cZ, 17280, .inl t_holds)), (t_held_a, .inl (cZ, 17280, .inl t_held))] H := hP
  have hD : va_D A [(t, .inr (9, [.int (0 : Int32), .ref t_tape_a, .int t_taped, .int t_fault, .int t_faultPlace, .int t_at, .int t_rules, .ref t_firstPart_a, .ref t_partMany_a, .ref t_rulePlace_a, .int t_parts, .ref t_sort_a, .ref t_predicate_a, .ref t_firstTerm_a, .ref t_termMany_a, .ref t_partPlace_a, .int t_terms, .ref t_term_a, .ref t_depends_a, .int t_ruleCount, .ref t_partCount_a, .ref t_partSort_a, .ref t_partPredicate_a, .ref t_partTerms_a, .ref t_termOf_a, .ref t_variableCount_a, .ref t_kind_a, .ref t_width_a, .ref t_stratum_a, .ref t_holds_a, .ref t_held_a, .ref t_kept_a, .int t_changes, .int t_staged, .ref t_stage_a, .int t_logged, .int t_safe, .ref t_logs_a, .ref t_value_a, .int t_wanted, .int t_count, .int t_fresh])), (t_holds_a, .inl (cZ, 17280, .inl t_holds)), (t_held_a, .inl (cZ, 17280, .inl t_held))] := hD
  refine lv_aload_n hx hb dX9_changed_5 rfl (lv_at hl 0 rfl) ?_
  refine va_get (D := D) (ci := 9) (v := .int t_changes) (C := RX9) (T := TX9) (N := 42) hx hb hts in_X9 hown hK hP 0 rfl rfl 32 (by decide) (hts _ kf_X9_205) (fun _ h9 => h9) rfl dX9_changed_6 ?_
  refine lv_if_eq (tgt := 25) hx hb dX9_changed_9 (by decide) (fun hc => ?_) (fun hc => ?_)
  · have hm := if_t hc hm
    refine lv_iconst (v := (-1 : Int32)) hx hb dX9_changed_25 (by decide) ?_
    have ho := Option.some.inj hm
    exact k_iret hx hb hr hlocks hK hP hD hS dX9_changed_26 hQ (by rw [← ho]) (by rw [← ho])
  · have hm := if_f hc hm
    refine lv_iload_n hx hb dX9_changed_12 rfl (lv_at hl 1 rfl) ?_
    refine lv_if_lt (tgt := 25) hx hb dX9_changed_13 (by decide) (fun hc => ?_) (fun hc => ?_)
    · have hm := if_t hc hm
      refine lv_iconst (v := (-1 : Int32)) hx hb dX9_changed_25 (by decide) ?_
      have ho := Option.some.inj hm
      exact k_iret hx hb hr hlocks hK hP hD hS dX9_changed_26 hQ (by rw [← ho]) (by rw [← ho])
    · have hm := if_f hc hm
      refine lv_iload_n hx hb dX9_changed_16 rfl (lv_at hl 2 rfl) ?_
      refine lv_if_lt (tgt := 25) hx hb dX9_changed_17 (by decide) (fun hc => ?_) (fun hc => ?_)
      · have hm := if_t hc hm
        refine lv_iconst (v := (-1 : Int32)) hx hb dX9_changed_25 (by decide) ?_
        have ho := Option.some.inj hm
        exact k_iret hx hb hr hlocks hK hP hD hS dX9_changed_26 hQ (by rw [← ho]) (by rw [← ho])
      · have hm := if_f hc hm
        refine lv_iload_n hx hb dX9_changed_20 rfl (lv_at hl 2 rfl) ?_
        refine lv_iconst (v := (2 : Int32)) hx hb dX9_changed_21 (by decide) ?_
        refine lv_icmp_le (tgt := 27) hx hb dX9_changed_22 (by decide) (fun hc => ?_) (fun hc => ?_)
        · have hm := if_t hc hm
          refine lv_iconst (v := (0 : Int32)) hx hb dX9_changed_27 (by decide) ?_
          refine lv_istore_n (lv' := [(3, .int (0 : Int32)), (0, .ref t), (1, .int x0), (2, .int x1)]) hx hb dX9_changed_28 rfl hl (by decide) rfl (fun ls hl => ?_)
          refine lv_iconst (v := (0 : Int32)) hx hb dX9_changed_29 (by decide) ?_
          refine lv_istore (lv' := [(4, .int (0 : Int32)), (3, .int (0 : Int32)), (0, .ref t), (1, .int x0), (2, .int x1)]) hx hb dX9_changed_30 hl (by decide) rfl (fun ls hl => ?_)
          obtain ⟨z4, hz4, hm⟩ := bd_at hm
          refine L32 (0 : Int32) x0 x1 F (0 : Int32) (0 : Int32) z4 hz4 (fun q5 H locs ls ez hP hD hS hl => ?_) (fun o ho => ?_) H locs ls hP hD hS (lv_sub hl [0, 1, 2, 3, 4] rfl)
          · have hm := cs_l ez hm
            refine lv_iconst (v := (-1 : Int32)) hx hb dX9_changed_117 (by decide) ?_
            have ho := Option.some.inj hm
            exact k_iret hx hb hr hlocks hK hP hD hS dX9_changed_118 hQ (by rw [← ho]) (by rw [← ho])
          · have hm := cs_r ho hm
            exact Option.some.inj hm
        · have hm := if_f hc hm
          refine lv_iconst (v := (-1 : Int32)) hx hb dX9_changed_25 (by decide) ?_
          have ho := Option.some.inj hm
          exact k_iret hx hb hr hlocks hK hP hD hS dX9_changed_26 hQ (by rw [← ho]) (by rw [← ho])
noncomputable def M_Model_sync (t_thrown : Int32) (t_logged : Int32) (t_safe : Int32) : Option ((Int32) × (Int32) × (Int32)) := some (t_logged, (0 : Int32), t_logged)
set_option maxRecDepth 100000 in
set_option maxHeartbeats 4000000 in
theorem K_Model_sync (l : Launch) (D : va_G) (cB cI cZ cJ : ClassId) (t : Nat) (t_tape_a : Nat) (t_firstPart_a : Nat) (t_partMany_a : Nat) (t_rulePlace_a : Nat) (t_sort_a : Nat) (t_predicate_a : Nat) (t_firstTerm_a : Nat) (t_termMany_a : Nat) (t_partPlace_a : Nat) (t_term_a : Nat) (t_depends_a : Nat) (t_partCount_a : Nat) (t_partSort_a : Nat) (t_partPredicate_a : Nat) (t_partTerms_a : Nat) (t_termOf_a : Nat) (t_variableCount_a : Nat) (t_kind_a : Nat) (t_width_a : Nat) (t_stratum_a : Nat) (t_holds_a : Nat) (t_held_a : Nat) (t_kept_a : Nat) (t_stage_a : Nat) (t_logs_a : Nat) (t_value_a : Nat) (t_thrown : Int32) (t_taped : Int32) (t_fault : Int32) (t_faultPlace : Int32) (t_at : Int32) (t_rules : Int32) (t_parts : Int32) (t_terms : Int32) (t_ruleCount : Int32) (t_changes : Int32) (t_staged : Int32) (t_logged : Int32) (t_safe : Int32) (t_wanted : Int32) (t_count : Int32) (t_fresh : Int32) (out : (Int32) × (Int32) × (Int32)) (hm : M_Model_sync t_thrown t_logged t_safe = some out) : KC l yX9_sync cX9_sync 1 (some .int) { frames := 0, cells := 0, slots := 0, locals := 0 } D (kTy cB cI cZ cJ) [.ref t] [(t, .inr (9, [.int t_thrown, .ref t_tape_a, .int t_taped, .int t_fault, .int t_faultPlace, .int t_at, .int t_rules, .ref t_firstPart_a, .ref t_partMany_a, .ref t_rulePlace_a, .int t_parts, .ref t_sort_a, .ref t_predicate_a, .ref t_firstTerm_a, .ref t_termMany_a, .ref t_partPlace_a, .int t_terms, .ref t_term_a, .ref t_depends_a, .int t_ruleCount, .ref t_partCount_a, .ref t_partSort_a, .ref t_partPredicate_a, .ref t_partTerms_a, .ref t_termOf_a, .ref t_variableCount_a, .ref t_kind_a, .ref t_width_a, .ref t_stratum_a, .ref t_holds_a, .ref t_held_a, .ref t_kept_a, .int t_changes, .int t_staged, .ref t_stage_a, .int t_logged, .int t_safe, .ref t_logs_a, .ref t_value_a, .int t_wanted, .int t_count, .int t_fresh]))] (some (.int out.1)) [(t, .inr (9, [.int out.2.1, .ref t_tape_a, .int t_taped, .int t_fault, .int t_faultPlace, .int t_at, .int t_rules, .ref t_firstPart_a, .ref t_partMany_a, .ref t_rulePlace_a, .int t_parts, .ref t_sort_a, .ref t_predicate_a, .ref t_firstTerm_a, .ref t_termMany_a, .ref t_partPlace_a, .int t_terms, .ref t_term_a, .ref t_depends_a, .int t_ruleCount, .ref t_partCount_a, .ref t_partSort_a, .ref t_partPredicate_a, .ref t_partTerms_a, .ref t_termOf_a, .ref t_variableCount_a, .ref t_kind_a, .ref t_width_a, .ref t_stratum_a, .ref t_holds_a, .ref t_held_a, .ref t_kept_a, .int t_changes, .int t_staged, .ref t_stage_a, .int t_logged, .int out.2.2, .ref t_logs_a, .ref t_value_a, .int t_wanted, .int t_count, .int t_fresh]))] := by
  refine KC.of (by decide +kernel) (Nat.le_of_ble_eq_true rfl) ?_
  intro p e s m below meth c A ls args Q hQ CX hA hK hP hD hl
  obtain ⟨hx, hb, hr, hml, hown, hts, hlocks⟩ := CX
  have hown : s.vm.findClass RX9 = some m.cls := hown
  have hS : va_S A s.heap s.heap [] := va_S.rf
  have hl : lv_has ls 1 [(0, .ref t)] := hl
  unfold M_Model_sync at hm
  obtain ⟨H, eH⟩ : ∃ H, H = s.heap := ⟨_, rfl⟩
  obtain ⟨locs, el⟩ : ∃ x : List Loc, x = [] := ⟨_, rfl⟩
  have hP : va_P D vwCl [(t, .inr (9, [.int t_thrown, .ref t_tape_a, .int t_taped, .int t_fault, .int t_faultPlace, .int t_at, .int t_rules, .ref t_firstPart_a, .ref t_partMany_a, .ref t_rulePlace_a, .int t_parts, .ref t_sort_a, .ref t_predicate_a, .ref t_firstTerm_a, .ref t_termMany_a, .ref t_partPlace_a, .int t_terms, .ref t_term_a, .ref t_depends_a, .int t_ruleCount, .ref t_partCount_a, .ref t_partSort_a, .ref t_partPredicate_a, .ref t_partTerms_a, .ref t_termOf_a, .ref t_variableCount_a, .ref t_kind_a, .ref t_width_a, .ref t_stratum_a, .ref t_holds_a, .ref t_held_a, .ref t_kept_a, .int t_changes, .int t_staged, .ref t_stage_a, .int t_logged, .int t_safe, .ref t_logs_a, .ref t_value_a, .int t_wanted, .int t_count, .int t_fresh]))] H := eH ▸ hP
  have hS : va_S A s.heap H locs := by rw [eH, el]; exact hS
  suffices hW : W p l e { frames := 0, cells := 0, slots := 0, locals := 0 } s m args below meth c H locs 0 0 Q (F0 m 0 ls []) by rw [eH, el] at hW; exact hW
  clear eH el
  refine lv_aload_n hx hb dX9_sync_0 rfl (lv_at hl 0 rfl) ?_
  refine lv_iconst (v := (0 : Int32)) hx hb dX9_sync_1 (by decide) ?_
  refine va_put (D := D) (ci := 9) (v := .int (0 : Int32)) (ty := .int) (C := RX9) (T := TX9) (N := 42) hx hb hts in_X9 tyX9 tyX9_ok nmX9 hown hK hP hD hS 0 rfl rfl 0 (by decide) (hts _ kf_X9_89) (fun _ h9 => h9) rfl (by decide +kernel) rfl rfl (Nat.le_of_ble_eq_true rfl) dX9_sync_2 (fun H locs hP hD hS => ?_)
  have hP : va_P D vwCl [(t, .inr (9, [.int (0 : Int32), .ref t_tape_a, .int t_taped, .int t_fault, .int t_faultPlace, .int t_at, .int t_rules, .ref t_firstPart_a, .ref t_partMany_a, .ref t_rulePlace_a, .int t_parts, .ref t_sort_a, .ref t_predicate_a, .ref t_firstTerm_a, .ref t_termMany_a, .ref t_partPlace_a, .int t_terms, .ref t_term_a, .ref t_depends_a, .int t_ruleCount, .ref t_partCount_a, .ref t_partSort_a, .ref t_partPredicate_a, .ref t_partTerms_a, .ref t_termOf_a, .ref t_variableCount_a, .ref t_kind_a, .ref t_width_a, .ref t_stratum_a, .ref t_holds_a, .ref t_held_a, .ref t_kept_a, .int t_changes, .int t_staged, .ref t_stage_a, .int t_logged, .int t_safe, .ref t_logs_a, .ref t_value_a, .int t_wanted, .int t_count, .int t_fresh]))] H := hP
  have hD : va_D A [(t, .inr (9, [.int (0 : Int32), .ref t_tape_a, .int t_taped, .int t_fault, .int t_faultPlace, .int t_at, .int t_rules, .ref t_firstPart_a, .ref t_partMany_a, .ref t_rulePlace_a, .int t_parts, .ref t_sort_a, .ref t_predicate_a, .ref t_firstTerm_a, .ref t_termMany_a, .ref t_partPlace_a, .int t_terms, .ref t_term_a, .ref t_depends_a, .int t_ruleCount, .ref t_partCount_a, .ref t_partSort_a, .ref t_partPredicate_a, .ref t_partTerms_a, .ref t_termOf_a, .ref t_variableCount_a, .ref t_kind_a, .ref t_width_a, .ref t_stratum_a, .ref t_holds_a, .ref t_held_a, .ref t_kept_a, .int t_changes, .int t_staged, .ref t_stage_a, .int t_logged, .int t_safe, .ref t_logs_a, .ref t_value_a, .int t_wanted, .int t_count, .int t_fresh]))] := hD
  refine lv_aload_n hx hb dX9_sync_5 rfl (lv_at hl 0 rfl) ?_
  refine lv_aload_n hx hb dX9_sync_6 rfl (lv_at hl 0 rfl) ?_
  refine va_get (D := D) (ci := 9) (v := .int t_logged) (C := RX9) (T := TX9) (N := 42) hx hb hts in_X9 hown hK hP 0 rfl rfl 35 (by decide) (hts _ kf_X9_196) (fun _ h9 => h9) rfl dX9_sync_7 ?_
  refine va_put (D := D) (ci := 9) (v := .int t_logged) (ty := .int) (C := RX9) (T := TX9) (N := 42) hx hb hts in_X9 tyX9 tyX9_ok nmX9 hown hK hP hD hS 0 rfl rfl 36 (by decide) (hts _ kf_X9_199) (fun _ h9 => h9) rfl (by decide +kernel) rfl rfl (Nat.le_of_ble_eq_true rfl) dX9_sync_10 (fun H locs hP hD hS => ?_)
  have hP : va_P D vwCl [(t, .inr (9, [.int (0 : Int32), .ref t_tape_a, .int t_taped, .int t_fault, .int t_faultPlace, .int t_at, .int t_rules, .ref t_firstPart_a, .ref t_partMany_a, .ref t_rulePlace_a, .int t_parts, .ref t_sort_a, .ref t_predicate_a, .ref t_firstTerm_a, .ref t_termMany_a, .ref t_partPlace_a, .int t_terms, .ref t_term_a, .ref t_depends_a, .int t_ruleCount, .ref t_partCount_a, .ref t_partSort_a, .ref t_partPredicate_a, .ref t_partTerms_a, .ref t_termOf_a, .ref t_variableCount_a, .ref t_kind_a, .ref t_width_a, .ref t_stratum_a, .ref t_holds_a, .ref t_held_a, .ref t_kept_a, .int t_changes, .int t_staged, .ref t_stage_a, .int t_logged, .int t_logged, .ref t_logs_a, .ref t_value_a, .int t_wanted, .int t_count, .int t_fresh]))] H := hP
  have hD : va_D A [(t, .inr (9, [.int (0 : Int32), .ref t_tape_a, .int t_taped, .int t_fault, .int t_faultPlace, .int t_at, .int t_rules, .ref t_firstPart_a, .ref t_partMany_a, .ref t_rulePlace_a, .int t_parts, .ref t_sort_a, .ref t_predicate_a, .ref t_firstTerm_a, .ref t_termMany_a, .ref t_partPlace_a, .int t_terms, .ref t_term_a, .ref t_depends_a, .int t_ruleCount, .ref t_partCount_a, .ref t_partSort_a, .ref t_partPredicate_a, .ref t_partTerms_a, .ref t_termOf_a, .ref t_variableCount_a, .ref t_kind_a, .ref t_width_a, .ref t_stratum_a, .ref t_holds_a, .ref t_held_a, .ref t_kept_a, .int t_changes, .int t_staged, .ref t_stage_a, .int t_logged, .int t_logged, .ref t_logs_a, .ref t_value_a, .int t_wanted, .int t_count, .int t_fresh]))] := hD
  refine lv_aload_n hx hb dX9_sync_13 rfl (lv_at hl 0 rfl) ?_
  refine va_get (D := D) (ci := 9) (v := .int t_logged) (C := RX9) (T := TX9) (N := 42) hx hb hts in_X9 hown hK hP 0 rfl rfl 35 (by decide) (hts _ kf_X9_196) (fun _ h9 => h9) rfl dX9_sync_14 ?_
  have ho := Option.some.inj hm
  exact k_iret hx hb hr hlocks hK hP hD hS dX9_sync_17 hQ (by rw [← ho]) (by rw [← ho])
noncomputable def M_Model_baseMany_L4 (F : Nat) (t_kind : Nat → Int32) (t_kept : Nat → Int32) : Nat → Int32 → Int32 → Option ((Int32))
  | 0, _, _ => none
  | n + 1, y3, y2 => if (17280 : Int32) ≤ y3 then (some y2) else (gd_ y3 17280 <| if (t_kept y3.toNatClampNeg) = 0 then (lt_ ((y2 + (0 : Int32))) fun v1 => lt_ (y3 + (1 : Int32)) fun v2 => M_Model_baseMany_L4 F t_kind t_kept n v2 v1) else (gd_ (y3 / (1728 : Int32)) 10 <| lt_ ((t_kind (y3 / (1728 : Int32)).toNatClampNeg)) fun v3 => if v3 = (1 : Int32) then (lt_ ((y2 + (1 : Int32))) fun v6 => lt_ (y3 + (1 : Int32)) fun v7 => M_Model_baseMany_L4 F t_kind t_kept n v7 v6) else (lt_ ((y2 + (0 : Int32))) fun v4 => lt_ (y3 + (1 : Int32)) fun v5 => M_Model_baseMany_L4 F t_kind t_kept n v5 v4)))
noncomputable def M_Model_baseMany (F : Nat) (t_kind : Nat → Int32) (t_kept : Nat → Int32) : Option ((Int32)) := bd_ (M_Model_baseMany_L4 F t_kind t_kept F (0 : Int32) (0 : Int32)) fun z8 => some z8
set_option maxRecDepth 100000 in
set_option maxHeartbeats 4000000 in
theorem K_Model_baseMany (l : Launch) (D : va_G) (cB cI cZ cJ : ClassId) (t : Nat) (t_tape_a : Nat) (t_firstPart_a : Nat) (t_partMany_a : Nat) (t_rulePlace_a : Nat) (t_sort_a : Nat) (t_predicate_a : Nat) (t_firstTerm_a : Nat) (t_termMany_a : Nat) (t_partPlace_a : Nat) (t_term_a : Nat) (t_depends_a : Nat) (t_partCount_a : Nat) (t_partSort_a : Nat) (t_partPredicate_a : Nat) (t_partTerms_a : Nat) (t_termOf_a : Nat) (t_variableCount_a : Nat) (t_kind_a : Nat) (t_width_a : Nat) (t_stratum_a : Nat) (t_holds_a : Nat) (t_held_a : Nat) (t_kept_a : Nat) (t_stage_a : Nat) (t_logs_a : Nat) (t_value_a : Nat) (t_thrown : Int32) (t_taped : Int32) (t_fault : Int32) (t_faultPlace : Int32) (t_at : Int32) (t_rules : Int32) (t_parts : Int32) (t_terms : Int32) (t_ruleCount : Int32) (t_changes : Int32) (t_staged : Int32) (t_logged : Int32) (t_safe : Int32) (t_wanted : Int32) (t_count : Int32) (t_fresh : Int32) (t_kind : Nat → Int32) (t_kept : Nat → Int32) (F : Nat) (out : (Int32)) (hm : M_Model_baseMany F t_kind t_kept = some out) : KC l yX9_baseMany cX9_baseMany 4 (some .int) { frames := 0, cells := 0, slots := 0, locals := 0 } D (kTy cB cI cZ cJ) [.ref t, .ref t_kept_a] [(t, .inr (9, [.int t_thrown, .ref t_tape_a, .int t_taped, .int t_fault, .int t_faultPlace, .int t_at, .int t_rules, .ref t_firstPart_a, .ref t_partMany_a, .ref t_rulePlace_a, .int t_parts, .ref t_sort_a, .ref t_predicate_a, .ref t_firstTerm_a, .ref t_termMany_a, .ref t_partPlace_a, .int t_terms, .ref t_term_a, .ref t_depends_a, .int t_ruleCount, .ref t_partCount_a, .ref t_partSort_a, .ref t_partPredicate_a, .ref t_partTerms_a, .ref t_termOf_a, .ref t_variableCount_a, .ref t_kind_a, .ref t_width_a, .ref t_stratum_a, .ref t_holds_a, .ref t_held_a, .ref t_kept_a, .int t_changes, .int t_staged, .ref t_stage_a, .int t_logged, .int t_safe, .ref t_logs_a, .ref t_value_a, .int t_wanted, .int t_count, .int t_fresh])), (t_kind_a, .inl (cI, 10, .inl t_kind)), (t_kept_a, .inl (cZ, 17280, .inl t_kept))] (some (.int out)) [(t, .inr (9, [.int t_thrown, .ref t_tape_a, .int t_taped, .int t_fault, .int t_faultPlace, .int t_at, .int t_rules, .ref t_firstPart_a, .ref t_partMany_a, .ref t_rulePlace_a, .int t_parts, .ref t_sort_a, .ref t_predicate_a, .ref t_firstTerm_a, .ref t_termMany_a, .ref t_partPlace_a, .int t_terms, .ref t_term_a, .ref t_depends_a, .int t_ruleCount, .ref t_partCount_a, .ref t_partSort_a, .ref t_partPredicate_a, .ref t_partTerms_a, .ref t_termOf_a, .ref t_variableCount_a, .ref t_kind_a, .ref t_width_a, .ref t_stratum_a, .ref t_holds_a, .ref t_held_a, .ref t_kept_a, .int t_changes, .int t_staged, .ref t_stage_a, .int t_logged, .int t_safe, .ref t_logs_a, .ref t_value_a, .int t_wanted, .int t_count, .int t_fresh])), (t_kind_a, .inl (cI, 10, .inl t_kind)), (t_kept_a, .inl (cZ, 17280, .inl t_kept))] := by
  refine KC.of (by decide +kernel) (Nat.le_of_ble_eq_true rfl) ?_
  intro p e s m below meth c A ls args Q hQ CX hA hK hP hD hl
  obtain ⟨hx, hb, hr, hml, hown, hts, hlocks⟩ := CX
  have hown : s.vm.findClass RX9 = some m.cls := hown
  have hS : va_S A s.heap s.heap [] := va_S.rf
  have hl : lv_has ls 4 [(0, .ref t), (1, .ref t_kept_a)] := hl
  have L4 : ∀ (n : Nat) (y3 : Int32) (y2 : Int32) (z : ((Int32))), M_Model_baseMany_L4 F t_kind t_kept n y3 y2 = some z →
      (∀ (H : Heap) (locs : List Loc) (ls : Array Slot), va_P D vwCl [(t, .inr (9, [.int t_thrown, .ref t_tape_a, .int t_taped, .int t_fault, .int t_faultPlace, .int t_at, .int t_rules, .ref t_firstPart_a, .ref t_partMany_a, .ref t_rulePlace_a, .int t_parts, .ref t_sort_a, .ref t_predicate_a, .ref t_firstTerm_a, .ref t_termMany_a, .ref t_partPlace_a, .int t_terms, .ref t_term_a, .ref t_depends_a, .int t_ruleCount, .ref t_partCount_a, .ref t_partSort_a, .ref t_partPredicate_a, .ref t_partTerms_a, .ref t_termOf_a, .ref t_variableCount_a, .ref t_kind_a, .ref t_width_a, .ref t_stratum_a, .ref t_holds_a, .ref t_held_a, .ref t_kept_a, .int t_changes, .int t_staged, .ref t_stage_a, .int t_logged, .int t_safe, .ref t_logs_a, .ref t_value_a, .int t_wanted, .int t_count, .int t_fresh])), (t_kind_a, .inl (cI, 10, .inl t_kind)), (t_kept_a, .inl (cZ, 17280, .inl t_kept))] H → va_D A [(t, .inr (9, [.int t_thrown, .ref t_tape_a, .int t_taped, .int t_fault, .int t_faultPlace, .int t_at, .int t_rules, .ref t_firstPart_a, .ref t_partMany_a, .ref t_rulePlace_a, .int t_parts, .ref t_sort_a, .ref t_predicate_a, .ref t_firstTerm_a, .ref t_termMany_a, .ref t_partPlace_a, .int t_terms, .ref t_term_a, .ref t_depends_a, .int t_ruleCount, .ref t_partCount_a, .ref t_partSort_a, .ref t_partPredicate_a, .ref t_partTerms_a, .ref t_termOf_a, .ref t_variableCount_a, .ref t_kind_a, .ref t_width_a, .ref t_stratum_a, .ref t_holds_a, .ref t_held_a, .ref t_kept_a, .int t_changes, .int t_staged, .ref t_stage_a, .int t_logged, .int t_safe, .ref t_logs_a, .ref t_value_a, .int t_wanted, .int t_count, .int t_fresh])), (t_kind_a, .inl (cI, 10, .inl t_kind)), (t_kept_a, .inl (cZ, 17280, .inl t_kept))] → va_S A s.heap H locs → lv_has ls 4 [(2, .int z)] → W p l e { frames := 0, cells := 0, slots := 0, locals := 0 } s m args below meth c H locs 0 0 Q (F0 m 45 ls [])) →
      ∀ (H : Heap) (locs : List Loc) (ls : Array Slot), va_P D vwCl [(t, .inr (9, [.int t_thrown, .ref t_tape_a, .int t_taped, .int t_fault, .int t_faultPlace, .int t_at, .int t_rules, .ref t_firstPart_a, .ref t_partMany_a, .ref t_rulePlace_a, .int t_parts, .ref t_sort_a, .ref t_predicate_a, .ref t_firstTerm_a, .ref t_termMany_a, .ref t_partPlace_a, .int t_terms, .ref t_term_a, .ref t_depends_a, .int t_ruleCount, .ref t_partCount_a, .ref t_partSort_a, .ref t_partPredicate_a, .ref t_partTerms_a, .ref t_termOf_a, .ref t_variableCount_a, .ref t_kind_a, .ref t_width_a, .ref t_stratum_a, .ref t_holds_a, .ref t_held_a, .ref t_kept_a, .int t_changes, .int t_staged, .ref t_stage_a, .int t_logged, .int t_safe, .ref t_logs_a, .ref t_value_a, .int t_wanted, .int t_count, .int t_fresh])), (t_kind_a, .inl (cI, 10, .inl t_kind)), (t_kept_a, .inl (cZ, 17280, .inl t_kept))] H → va_D A [(t, .inr (9, [.int t_thrown, .ref t_tape_a, .int t_taped, .int t_fault, .int t_faultPlace, .int t_at, .int t_rules, .ref t_firstPart_a, .ref t_partMany_a, .ref t_rulePlace_a, .int t_parts, .ref t_sort_a, .ref t_predicate_a, .ref t_firstTerm_a, .ref t_termMany_a, .ref t_partPlace_a, .int t_terms, .ref t_term_a, .ref t_depends_a, .int t_ruleCount, .ref t_partCount_a, .ref t_partSort_a, .ref t_partPredicate_a, .ref t_partTerms_a, .ref t_termOf_a, .ref t_variableCount_a, .ref t_kind_a, .ref t_width_a, .ref t_stratum_a, .ref t_holds_a, .ref t_held_a, .ref t_kept_a, .int t_changes, .int t_staged, .ref t_stage_a, .int t_logged, .int t_safe, .ref t_logs_a, .ref t_value_a, .int t_wanted, .int t_count, .int t_fresh])), (t_kind_a, .inl (cI, 10, .inl t_kind)), (t_kept_a, .inl (cZ, 17280, .inl t_kept))] → va_S A s.heap H locs → lv_has ls 4 [(3, .int y3), (2, .int y2), (0, .ref t), (1, .ref t_kept_a)] → W p l e { frames := 0, cells := 0, slots := 0, locals := 0 } s m args below meth c H locs 0 0 Q (F0 m 4 ls []) := by
    intro  n
    induction n with
    | zero => intro y3 y2 z hm; unfold M_Model_baseMany_L4 at hm; cases hm
    | succ n ih =>
      intro y3 y2 z hm hE H locs ls hP hD hS hl
      unfold M_Model_baseMany_L4 at hm
      refine lv_iload_n hx hb dX9_baseMany_4 rfl (lv_at hl 0 rfl) ?_
      refine lv_sipush (v := (17280 : Int32)) hx hb dX9_baseMany_5 (by decide) ?_
      refine lv_icmp_ge (tgt := 45) hx hb dX9_baseMany_8 (by decide) (fun hc => ?_) (fun hc => ?_)
      · have hm := if_t hc hm
        cases hm
        exact hE H locs ls hP hD hS (lv_sub hl [1] rfl)
      · have hm := if_f hc hm
        refine lv_iload_n hx hb dX9_baseMany_11 rfl (lv_at hl 1 rfl) ?_
        refine lv_aload_n hx hb dX9_baseMany_12 rfl (lv_at hl 3 rfl) ?_
        refine lv_iload_n hx hb dX9_baseMany_13 rfl (lv_at hl 0 rfl) ?_
        refine va_zald hx hb hK hP 2 2 rfl rfl (gd_in hm) dX9_baseMany_14 ?_
        have hm := gd_go hm
        refine lv_if_eq (tgt := 36) hx hb dX9_baseMany_15 (by decide) (fun hc => ?_) (fun hc => ?_)
        · have hm := if_t hc hm
          refine lv_iconst (v := (0 : Int32)) hx hb dX9_baseMany_36 (by decide) ?_
          refine lv_iadd hx hb dX9_baseMany_37 ?_
          refine lv_topi (fun v1 ev1 => ?_)
          have hm := lt_at ev1 hm
          refine lv_istore_n (lv' := [(2, .int v1), (3, .int y3), (0, .ref t), (1, .ref t_kept_a)]) hx hb dX9_baseMany_38 rfl hl (by decide) rfl (fun ls hl => ?_)
          obtain ⟨v2, ev2⟩ : ∃ y : Int32, y = y3 + (1 : Int32) := ⟨_, rfl⟩
          have hm := lt_at ev2 hm
          refine lv_iinc (v := v2) (lv' := [(3, .int v2), (2, .int v1), (0, .ref t), (1, .ref t_kept_a)]) hx hb dX9_baseMany_39 hl (k := 1) rfl (by rw [ev2]; rfl) (by decide) rfl (fun ls hl => ?_)
          refine lv_goto (tgt := 4) hx hb dX9_baseMany_42 (by decide) ?_
          exact ih v2 v1 z hm hE H locs ls hP hD hS (lv_sub hl [0, 1, 2, 3] rfl)
        · have hm := if_f hc hm
          refine lv_aload_n hx hb dX9_baseMany_18 rfl (lv_at hl 2 rfl) ?_
          refine va_get (D := D) (ci := 9) (v := .ref t_kind_a) (C := RX9) (T := TX9) (N := 42) hx hb hts in_X9 hown hK hP 0 rfl rfl 26 (by decide) (hts _ kf_X9_62) (fun _ h9 => h9) rfl dX9_baseMany_19 ?_
          refine lv_iload_n hx hb dX9_baseMany_22 rfl (lv_at hl 0 rfl) ?_
          refine lv_sipush (v := (1728 : Int32)) hx hb dX9_baseMany_23 (by decide) ?_
          refine lv_idiv hx hb dX9_baseMany_26 (by decide) ?_
          refine va_iald hx hb hK hP 1 1 rfl rfl (gd_in hm) dX9_baseMany_27 ?_
          have hm := gd_go hm
          refine lv_topi (fun v3 ev3 => ?_)
          have hm := lt_at ev3 hm
          refine lv_iconst (v := (1 : Int32)) hx hb dX9_baseMany_28 (by decide) ?_
          refine lv_icmp_ne (tgt := 36) hx hb dX9_baseMany_29 (by decide) (fun hc => ?_) (fun hc => ?_)
          · have hm := if_f hc hm
            refine lv_iconst (v := (0 : Int32)) hx hb dX9_baseMany_36 (by decide) ?_
            refine lv_iadd hx hb dX9_baseMany_37 ?_
            refine lv_topi (fun v4 ev4 => ?_)
            have hm := lt_at ev4 hm
            refine lv_istore_n (lv' := [(2, .int v4), (3, .int y3), (0, .ref t), (1, .ref t_kept_a)]) hx hb dX9_baseMany_38 rfl hl (by decide) rfl (fun ls hl => ?_)
            obtain ⟨v5, ev5⟩ : ∃ y : Int32, y = y3 + (1 : Int32) := ⟨_, rfl⟩
            have hm := lt_at ev5 hm
            refine lv_iinc (v := v5) (lv' := [(3, .int v5), (2, .int v4), (0, .ref t), (1, .ref t_kept_a)]) hx hb dX9_baseMany_39 hl (k := 1) rfl (by rw [ev5]; rfl) (by decide) rfl (fun ls hl => ?_)
            refine lv_goto (tgt := 4) hx hb dX9_baseMany_42 (by decide) ?_
            exact ih v5 v4 z hm hE H locs ls hP hD hS (lv_sub hl [0, 1, 2, 3] rfl)
          · have hm := if_t hc hm
            refine lv_iconst (v := (1 : Int32)) hx hb dX9_baseMany_32 (by decide) ?_
            refine lv_goto (tgt := 37) hx hb dX9_baseMany_33 (by decide) ?_
            refine lv_iadd hx hb dX9_baseMany_37 ?_
            refine lv_topi (fun v6 ev6 => ?_)
            have hm := lt_at ev6 hm
            refine lv_istore_n (lv' := [(2, .int v6), (3, .int y3), (0, .ref t), (1, .ref t_kept_a)]) hx hb dX9_baseMany_38 rfl hl (by decide) rfl (fun ls hl => ?_)
            obtain ⟨v7, ev7⟩ : ∃ y : Int32, y = y3 + (1 : Int32) := ⟨_, rfl⟩
            have hm := lt_at ev7 hm
            refine lv_iinc (v := v7) (lv' := [(3, .int v7), (2, .int v6), (0, .ref t), (1, .ref t_kept_a)]) hx hb dX9_baseMany_39 hl (k := 1) rfl (by rw [ev7]; rfl) (by decide) rfl (fun ls hl => ?_)
            refine lv_goto (tgt := 4) hx hb dX9_baseMany_42 (by decide) ?_
            exact ih v7 v6 z hm hE H locs ls hP hD hS (lv_sub hl [0, 1, 2, 3] rfl)
  unfold M_Model_baseMany at hm
  obtain ⟨H, eH⟩ : ∃ H, H = s.heap := ⟨_, rfl⟩
  obtain ⟨locs, el⟩ : ∃ x : List Loc, x = [] := ⟨_, rfl⟩
  have hP : va_P D vwCl [(t, .inr (9, [.int t_thrown, .ref t_tape_a, .int t_taped, .int t_fault, .int t_faultPlace, .int t_at, .int t_rules, .ref t_firstPart_a, .ref t_partMany_a, .ref t_rulePlace_a, .int t_parts, .ref t_sort_a, .ref t_predicate_a, .ref t_firstTerm_a, .ref t_termMany_a, .ref t_partPlace_a, .int t_terms, .ref t_term_a, .ref t_depends_a, .int t_ruleCount, .ref t_partCount_a, .ref t_partSort_a, .ref t_partPredicate_a, .ref t_partTerms_a, .ref t_termOf_a, .ref t_variableCount_a, .ref t_kind_a, .ref t_width_a, .ref t_stratum_a, .ref t_holds_a, .ref t_held_a, .ref t_kept_a, .int t_changes, .int t_staged, .ref t_stage_a, .int t_logged, .int t_safe, .ref t_logs_a, .ref t_value_a, .int t_wanted, .int t_count, .int t_fresh])), (t_kind_a, .inl (cI, 10, .inl t_kind)), (t_kept_a, .inl (cZ, 17280, .inl t_kept))] H := eH ▸ hP
  have hS : va_S A s.heap H locs := by rw [eH, el]; exact hS
  suffices hW : W p l e { frames := 0, cells := 0, slots := 0, locals := 0 } s m args below meth c H locs 0 0 Q (F0 m 0 ls []) by rw [eH, el] at hW; exact hW
  clear eH el
  refine lv_iconst (v := (0 : Int32)) hx hb dX9_baseMany_0 (by decide) ?_
  refine lv_istore_n (lv' := [(2, .int (0 : Int32)), (0, .ref t), (1, .ref t_kept_a)]) hx hb dX9_baseMany_1 rfl hl (by decide) rfl (fun ls hl => ?_)
  refine lv_iconst (v := (0 : Int32)) hx hb dX9_baseMany_2 (by decide) ?_
  refine lv_istore_n (lv' := [(3, .int (0 : Int32)), (2, .int (0 : Int32)), (0, .ref t), (1, .ref t_kept_a)]) hx hb dX9_baseMany_3 rfl hl (by decide) rfl (fun ls hl => ?_)
  obtain ⟨z8, hz8, hm⟩ := bd_at hm
  refine L4  F (0 : Int32) (0 : Int32) z8 hz8 (fun H locs ls hP hD hS hl => ?_) H locs ls hP hD hS (lv_sub hl [0, 1, 2, 3] rfl)
  refine lv_iload_n hx hb dX9_baseMany_45 rfl (lv_at hl 0 rfl) ?_
  have ho := Option.some.inj hm
  exact k_iret hx hb hr hlocks hK hP hD hS dX9_baseMany_46 hQ (by rw [← ho]) rfl
noncomputable def M_Model_checkpoint_L7 (F : Nat) (t_kind : Nat → Int32) (t_holds : Nat → Int32) : Nat → Int32 → (Nat → Int32) → Option ((Nat → Int32))
  | 0, _, _ => none
  | n + 1, y1, c_t_kept => if (17280 : Int32) ≤ y1 then (some c_t_kept) else (gd_ y1 17280 <| if (t_holds y1.toNatClampNeg) = 0 then (gd_ y1 17280 <| lt_ (upd c_t_kept y1.toNatClampNeg (vp_nar .boolean (0 : Int32))) fun f1 => lt_ (y1 + (1 : Int32)) fun v2 => M_Model_checkpoint_L7 F t_kind t_holds n v2 f1) else (gd_ (y1 / (1728 : Int32)) 10 <| lt_ ((t_kind (y1 / (1728 : Int32)).toNatClampNeg)) fun v3 => if v3 = (1 : Int32) then (gd_ y1 17280 <| lt_ (upd c_t_kept y1.toNatClampNeg (vp_nar .boolean (1 : Int32))) fun f6 => lt_ (y1 + (1 : Int32)) fun v7 => M_Model_checkpoint_L7 F t_kind t_holds n v7 f6) else (gd_ y1 17280 <| lt_ (upd c_t_kept y1.toNatClampNeg (vp_nar .boolean (0 : Int32))) fun f4 => lt_ (y1 + (1 : Int32)) fun v5 => M_Model_checkpoint_L7 F t_kind t_holds n v5 f4)))
noncomputable def M_Model_checkpoint (F : Nat) (t_thrown : Int32) (t_kind : Nat → Int32) (t_holds : Nat → Int32) (t_kept : Nat → Int32) (t_logged : Int32) (t_safe : Int32) : Option ((Int32) × (Int32) × (Nat → Int32) × (Int32) × (Int32)) := bd_ (M_Model_checkpoint_L7 F t_kind t_holds F (0 : Int32) t_kept) fun z8 => bd_ (M_Model_baseMany F t_kind z8) fun z9 => some (z9, (0 : Int32), z8, (0 : Int32), (0 : Int32))
set_option maxRecDepth 100000 in
set_option maxHeartbeats 4000000 in
theorem K_Model_checkpoint (l : Launch) (D : va_G) (cB cI cZ cJ : ClassId) (t : Nat) (t_tape_a : Nat) (t_firstPart_a : Nat) (t_partMany_a : Nat) (t_rulePlace_a : Nat) (t_sort_a : Nat) (t_predicate_a : Nat) (t_firstTerm_a : Nat) (t_termMany_a : Nat) (t_partPlace_a : Nat) (t_term_a : Nat) (t_depends_a : Nat) (t_partCount_a : Nat) (t_partSort_a : Nat) (t_partPredicate_a : Nat) (t_partTerms_a : Nat) (t_termOf_a : Nat) (t_variableCount_a : Nat) (t_kind_a : Nat) (t_width_a : Nat) (t_stratum_a : Nat) (t_holds_a : Nat) (t_held_a : Nat) (t_kept_a : Nat) (t_stage_a : Nat) (t_logs_a : Nat) (t_value_a : Nat) (t_thrown : Int32) (t_taped : Int32) (t_fault : Int32) (t_faultPlace : Int32) (t_at : Int32) (t_rules : Int32) (t_parts : Int32) (t_terms : Int32) (t_ruleCount : Int32) (t_changes : Int32) (t_staged : Int32) (t_logged : Int32) (t_safe : Int32) (t_wanted : Int32) (t_count : Int32) (t_fresh : Int32) (t_kind : Nat → Int32) (t_holds : Nat → Int32) (t_kept : Nat → Int32) (F : Nat) (out : (Int32) × (Int32) × (Nat → Int32) × (Int32) × (Int32)) (hm : M_Model_checkpoint F t_thrown t_kind t_holds t_kept t_logged t_safe = some out) : KC l yX9_checkpoint cX9_checkpoint 2 (some .int) { frames := 1, cells := 0, slots := 0, locals := 23 } D (kTy cB cI cZ cJ) [.ref t] [(t, .inr (9, [.int t_thrown, .ref t_tape_a, .int t_taped, .int t_fault, .int t_faultPlace, .int t_at, .int t_rules, .ref t_firstPart_a, .ref t_partMany_a, .ref t_rulePlace_a, .int t_parts, .ref t_sort_a, .ref t_predicate_a, .ref t_firstTerm_a, .ref t_termMany_a, .ref t_partPlace_a, .int t_terms, .ref t_term_a, .ref t_depends_a, .int t_ruleCount, .ref t_partCount_a, .ref t_partSort_a, .ref t_partPredicate_a, .ref t_partTerms_a, .ref t_termOf_a, .ref t_variableCount_a, .ref t_kind_a, .ref t_width_a, .ref t_stratum_a, .ref t_holds_a, .ref t_held_a, .ref t_kept_a, .int t_changes, .int t_staged, .ref t_stage_a, .int t_logged, .int t_safe, .ref t_logs_a, .ref t_value_a, .int t_wanted, .int t_count, .int t_fresh])), (t_kind_a, .inl (cI, 10, .inl t_kind)), (t_holds_a, .inl (cZ, 17280, .inl t_holds)), (t_kept_a, .inl (cZ, 17280, .inl t_kept))] (some (.int out.1)) [(t, .inr (9, [.int out.2.1, .ref t_tape_a, .int t_taped, .int t_fault, .int t_faultPlace, .int t_at, .int t_rules, .ref t_firstPart_a, .ref t_partMany_a, .ref t_rulePlace_a, .int t_parts, .ref t_sort_a, .ref t_predicate_a, .ref t_firstTerm_a, .ref t_termMany_a, .ref t_partPlace_a, .int t_terms, .ref t_term_a, .ref t_depends_a, .int t_ruleCount, .ref t_partCount_a, .ref t_partSort_a, .ref t_partPredicate_a, .ref t_partTerms_a, .ref t_termOf_a, .ref t_variableCount_a, .ref t_kind_a, .ref t_width_a, .ref t_stratum_a, .ref t_holds_a, .ref t_held_a, .ref t_kept_a, .int t_changes, .int t_staged, .ref t_stage_a, .int out.2.2.2.1, .int out.2.2.2.2, .ref t_logs_a, .ref t_value_a, .int t_wanted, .int t_count, .int t_fresh])), (t_kind_a, .inl (cI, 10, .inl t_kind)), (t_holds_a, .inl (cZ, 17280, .inl t_holds)), (t_kept_a, .inl (cZ, 17280, .inl out.2.2.1))] := by
  refine KC.of (by decide +kernel) (Nat.le_of_ble_eq_true rfl) ?_
  intro p e s m below meth c A ls args Q hQ CX hA hK hP hD hl
  obtain ⟨hx, hb, hr, hml, hown, hts, hlocks⟩ := CX
  have hown : s.vm.findClass RX9 = some m.cls := hown
  have hS : va_S A s.heap s.heap [] := va_S.rf
  have hl : lv_has ls 2 [(0, .ref t)] := hl
  have L7 : ∀ (c_t_thrown : Int32) (c_t_logged : Int32) (c_t_safe : Int32) (n : Nat) (y1 : Int32) (c_t_kept : Nat → Int32) (z : ((Nat → Int32))), M_Model_checkpoint_L7 F t_kind t_holds n y1 c_t_kept = some z →
      (∀ (H : Heap) (locs : List Loc) (ls : Array Slot), va_P D vwCl [(t, .inr (9, [.int c_t_thrown, .ref t_tape_a, .int t_taped, .int t_fault, .int t_faultPlace, .int t_at, .int t_rules, .ref t_firstPart_a, .ref t_partMany_a, .ref t_rulePlace_a, .int t_parts, .ref t_sort_a, .ref t_predicate_a, .ref t_firstTerm_a, .ref t_termMany_a, .ref t_partPlace_a, .int t_terms, .ref t_term_a, .ref t_depends_a, .int t_ruleCount, .ref t_partCount_a, .ref t_partSort_a, .ref t_partPredicate_a, .ref t_partTerms_a, .ref t_termOf_a, .ref t_variableCount_a, .ref t_kind_a, .ref t_width_a, .ref t_stratum_a, .ref t_holds_a, .ref t_held_a, .ref t_kept_a, .int t_changes, .int t_staged, .ref t_stage_a, .int c_t_logged, .int c_t_safe, .ref t_logs_a, .ref t_value_a, .int t_wanted, .int t_count, .int t_fresh])), (t_kind_a, .inl (cI, 10, .inl t_kind)), (t_holds_a, .inl (cZ, 17280, .inl t_holds)), (t_kept_a, .inl (cZ, 17280, .inl z))] H → va_D A [(t, .inr (9, [.int c_t_thrown, .ref t_tape_a, .int t_taped, .int t_fault, .int t_faultPlace, .int t_at, .int t_rules, .ref t_firstPart_a, .ref t_partMany_a, .ref t_rulePlace_a, .int t_parts, .ref t_sort_a, .ref t_predicate_a, .ref t_firstTerm_a, .ref t_termMany_a, .ref t_partPlace_a, .int t_terms, .ref t_term_a, .ref t_depends_a, .int t_ruleCount, .ref t_partCount_a, .ref t_partSort_a, .ref t_partPredicate_a, .ref t_partTerms_a, .ref t_termOf_a, .ref t_variableCount_a, .ref t_kind_a, .ref t_width_a, .ref t_stratum_a, .ref t_holds_a, .ref t_held_a, .ref t_kept_a, .int t_changes, .int t_staged, .ref t_stage_a, .int c_t_logged, .int c_t_safe, .ref t_logs_a, .ref t_value_a, .int t_wanted, .int t_count, .int t_fresh])), (t_kind_a, .inl (cI, 10, .inl t_kind)), (t_holds_a, .inl (cZ, 17280, .inl t_holds)), (t_kept_a, .inl (cZ, 17280, .inl z))] → va_S A s.heap H locs → lv_has ls 2 [(0, .ref t)] → W p l e { frames := 1, cells := 0, slots := 0, locals := 23 } s m args below meth c H locs 0 0 Q (F0 m 54 ls [])) →
      ∀ (H : Heap) (locs : List Loc) (ls : Array Slot), va_P D vwCl [(t, .inr (9, [.int c_t_thrown, .ref t_tape_a, .int t_taped, .int t_fault, .int t_faultPlace, .int t_at, .int t_rules, .ref t_firstPart_a, .ref t_partMany_a, .ref t_rulePlace_a, .int t_parts, .ref t_sort_a, .ref t_predicate_a, .ref t_firstTerm_a, .ref t_termMany_a, .ref t_partPlace_a, .int t_terms, .ref t_term_a, .ref t_depends_a, .int t_ruleCount, .ref t_partCount_a, .ref t_partSort_a, .ref t_partPredicate_a, .ref t_partTerms_a, .ref t_termOf_a, .ref t_variableCount_a, .ref t_kind_a, .ref t_width_a, .ref t_stratum_a, .ref t_holds_a, .ref t_held_a, .ref t_kept_a, .int t_changes, .int t_staged, .ref t_stage_a, .int c_t_logged, .int c_t_safe, .ref t_logs_a, .ref t_value_a, .int t_wanted, .int t_count, .int t_fresh])), (t_kind_a, .inl (cI, 10, .inl t_kind)), (t_holds_a, .inl (cZ, 17280, .inl t_holds)), (t_kept_a, .inl (cZ, 17280, .inl c_t_kept))] H → va_D A [(t, .inr (9, [.int c_t_thrown, .ref t_tape_a, .int t_taped, .int t_fault, .int t_faultPlace, .int t_at, .int t_rules, .ref t_firstPart_a, .ref t_partMany_a, .ref t_rulePlace_a, .int t_parts, .ref t_sort_a, .ref t_predicate_a, .ref t_firstTerm_a, .ref t_termMany_a, .ref t_partPlace_a, .int t_terms, .ref t_term_a, .ref t_depends_a, .int t_ruleCount, .ref t_partCount_a, .ref t_partSort_a, .ref t_partPredicate_a, .ref t_partTerms_a, .ref t_termOf_a, .ref t_variableCount_a, .ref t_kind_a, .ref t_width_a, .ref t_stratum_a, .ref t_holds_a, .ref t_held_a, .ref t_kept_a, .int t_changes, .int t_staged, .ref t_stage_a, .int c_t_logged, .int c_t_safe, .ref t_logs_a, .ref t_value_a, .int t_wanted, .int t_count, .int t_fresh])), (t_kind_a, .inl (cI, 10, .inl t_kind)), (t_holds_a, .inl (cZ, 17280, .inl t_holds)), (t_kept_a, .inl (cZ, 17280, .inl c_t_kept))] → va_S A s.heap H locs → lv_has ls 2 [(1, .int y1), (0, .ref t)] → W p l e { frames := 1, cells := 0, slots := 0, locals := 23 } s m args below meth c H locs 0 0 Q (F0 m 7 ls []) := by
    intro c_t_thrown c_t_logged c_t_safe n
    induction n with
    | zero => intro y1 c_t_kept z hm; unfold M_Model_checkpoint_L7 at hm; cases hm
    | succ n ih =>
      intro y1 c_t_kept z hm hE H locs ls hP hD hS hl
      unfold M_Model_checkpoint_L7 at hm
      refine lv_iload_n hx hb dX9_checkpoint_7 rfl (lv_at hl 0 rfl) ?_
      refine lv_sipush (v := (17280 : Int32)) hx hb dX9_checkpoint_8 (by decide) ?_
      refine lv_icmp_ge (tgt := 54) hx hb dX9_checkpoint_11 (by decide) (fun hc => ?_) (fun hc => ?_)
      · have hm := if_t hc hm
        cases hm
        exact hE H locs ls hP hD hS (lv_sub hl [1] rfl)
      · have hm := if_f hc hm
        refine lv_aload_n hx hb dX9_checkpoint_14 rfl (lv_at hl 1 rfl) ?_
        refine va_get (D := D) (ci := 9) (v := .ref t_kept_a) (C := RX9) (T := TX9) (N := 42) hx hb hts in_X9 hown hK hP 0 rfl rfl 31 (by decide) (hts _ kf_X9_77) (fun _ h9 => h9) rfl dX9_checkpoint_15 ?_
        refine lv_iload_n hx hb dX9_checkpoint_18 rfl (lv_at hl 0 rfl) ?_
        refine lv_aload_n hx hb dX9_checkpoint_19 rfl (lv_at hl 1 rfl) ?_
        refine va_get (D := D) (ci := 9) (v := .ref t_holds_a) (C := RX9) (T := TX9) (N := 42) hx hb hts in_X9 hown hK hP 0 rfl rfl 29 (by decide) (hts _ kf_X9_71) (fun _ h9 => h9) rfl dX9_checkpoint_20 ?_
        refine lv_iload_n hx hb dX9_checkpoint_23 rfl (lv_at hl 0 rfl) ?_
        refine va_zald hx hb hK hP 2 2 rfl rfl (gd_in hm) dX9_checkpoint_24 ?_
        have hm := gd_go hm
        refine lv_if_eq (tgt := 46) hx hb dX9_checkpoint_25 (by decide) (fun hc => ?_) (fun hc => ?_)
        · have hm := if_t hc hm
          refine lv_iconst (v := (0 : Int32)) hx hb dX9_checkpoint_46 (by decide) ?_
          refine k_zast hx hb hK hP hD hS 3 2 rfl rfl (gd_in hm) dX9_checkpoint_47 (fun f1 ef1 H locs hP hD hS => ?_)
          have hm := lt_at ef1 (gd_go hm)
          have hP : va_P D vwCl [(t, .inr (9, [.int c_t_thrown, .ref t_tape_a, .int t_taped, .int t_fault, .int t_faultPlace, .int t_at, .int t_rules, .ref t_firstPart_a, .ref t_partMany_a, .ref t_rulePlace_a, .int t_parts, .ref t_sort_a, .ref t_predicate_a, .ref t_firstTerm_a, .ref t_termMany_a, .ref t_partPlace_a, .int t_terms, .ref t_term_a, .ref t_depends_a, .int t_ruleCount, .ref t_partCount_a, .ref t_partSort_a, .ref t_partPredicate_a, .ref t_partTerms_a, .ref t_termOf_a, .ref t_variableCount_a, .ref t_kind_a, .ref t_width_a, .ref t_stratum_a, .ref t_holds_a, .ref t_held_a, .ref t_kept_a, .int t_changes, .int t_staged, .ref t_stage_a, .int c_t_logged, .int c_t_safe, .ref t_logs_a, .ref t_value_a, .int t_wanted, .int t_count, .int t_fresh])), (t_kind_a, .inl (cI, 10, .inl t_kind)), (t_holds_a, .inl (cZ, 17280, .inl t_holds)), (t_kept_a, .inl (cZ, 17280, .inl f1))] H := hP
          have hD : va_D A [(t, .inr (9, [.int c_t_thrown, .ref t_tape_a, .int t_taped, .int t_fault, .int t_faultPlace, .int t_at, .int t_rules, .ref t_firstPart_a, .ref t_partMany_a, .ref t_rulePlace_a, .int t_parts, .ref t_sort_a, .ref t_predicate_a, .ref t_firstTerm_a, .ref t_termMany_a, .ref t_partPlace_a, .int t_terms, .ref t_term_a, .ref t_depends_a, .int t_ruleCount, .ref t_partCount_a, .ref t_partSort_a, .ref t_partPredicate_a, .ref t_partTerms_a, .ref t_termOf_a, .ref t_variableCount_a, .ref t_kind_a, .ref t_width_a, .ref t_stratum_a, .ref t_holds_a, .ref t_held_a, .ref t_kept_a, .int t_changes, .int t_staged, .ref t_stage_a, .int c_t_logged, .int c_t_safe, .ref t_logs_a, .ref t_value_a, .int t_wanted, .int t_count, .int t_fresh])), (t_kind_a, .inl (cI, 10, .inl t_kind)), (t_holds_a, .inl (cZ, 17280, .inl t_holds)), (t_kept_a, .inl (cZ, 17280, .inl f1))] := hD
          obtain ⟨v2, ev2⟩ : ∃ y : Int32, y = y1 + (1 : Int32) := ⟨_, rfl⟩
          have hm := lt_at ev2 hm
          refine lv_iinc (v := v2) (lv' := [(1, .int v2), (0, .ref t)]) hx hb dX9_checkpoint_48 hl (k := 0) rfl (by rw [ev2]; rfl) (by decide) rfl (fun ls hl => ?_)
          refine lv_goto (tgt := 7) hx hb dX9_checkpoint_51 (by decide) ?_
          exact ih v2 f1 z hm hE H locs ls hP hD hS (lv_sub hl [0, 1] rfl)
        · have hm := if_f hc hm
          refine lv_aload_n hx hb dX9_checkpoint_28 rfl (lv_at hl 1 rfl) ?_
          refine va_get (D := D) (ci := 9) (v := .ref t_kind_a) (C := RX9) (T := TX9) (N := 42) hx hb hts in_X9 hown hK hP 0 rfl rfl 26 (by decide) (hts _ kf_X9_62) (fun _ h9 => h9) rfl dX9_checkpoint_29 ?_
          refine lv_iload_n hx hb dX9_checkpoint_32 rfl (lv_at hl 0 rfl) ?_
          refine lv_sipush (v := (1728 : Int32)) hx hb dX9_checkpoint_33 (by decide) ?_
          refine lv_idiv hx hb dX9_checkpoint_36 (by decide) ?_
          refine va_iald hx hb hK hP 1 1 rfl rfl (gd_in hm) dX9_checkpoint_37 ?_
          have hm := gd_go hm
          refine lv_topi (fun v3 ev3 => ?_)
          have hm := lt_at ev3 hm
          refine lv_iconst (v := (1 : Int32)) hx hb dX9_checkpoint_38 (by decide) ?_
          refine lv_icmp_ne (tgt := 46) hx hb dX9_checkpoint_39 (by decide) (fun hc => ?_) (fun hc => ?_)
          · have hm := if_f hc hm
            refine lv_iconst (v := (0 : Int32)) hx hb dX9_checkpoint_46 (by decide) ?_
            refine k_zast hx hb hK hP hD hS 3 2 rfl rfl (gd_in hm) dX9_checkpoint_47 (fun f4 ef4 H locs hP hD hS => ?_)
            have hm := lt_at ef4 (gd_go hm)
            have hP : va_P D vwCl [(t, .inr (9, [.int c_t_thrown, .ref t_tape_a, .int t_taped, .int t_fault, .int t_faultPlace, .int t_at, .int t_rules, .ref t_firstPart_a, .ref t_partMany_a, .ref t_rulePlace_a, .int t_parts, .ref t_sort_a, .ref t_predicate_a, .ref t_firstTerm_a, .ref t_termMany_a, .ref t_partPlace_a, .int t_terms, .ref t_term_a, .ref t_depends_a, .int t_ruleCount, .ref t_partCount_a, .ref t_partSort_a, .ref t_partPredicate_a, .ref t_partTerms_a, .ref t_termOf_a, .ref t_variableCount_a, .ref t_kind_a, .ref t_width_a, .ref t_stratum_a, .ref t_holds_a, .ref t_held_a, .ref t_kept_a, .int t_changes, .int t_staged, .ref t_stage_a, .int c_t_logged, .int c_t_safe, .ref t_logs_a, .ref t_value_a, .int t_wanted, .int t_count, .int t_fresh])), (t_kind_a, .inl (cI, 10, .inl t_kind)), (t_holds_a, .inl (cZ, 17280, .inl t_holds)), (t_kept_a, .inl (cZ, 17280, .inl f4))] H := hP
            have hD : va_D A [(t, .inr (9, [.int c_t_thrown, .ref t_tape_a, .int t_taped, .int t_fault, .int t_faultPlace, .int t_at, .int t_rules, .ref t_firstPart_a, .ref t_partMany_a, .ref t_rulePlace_a, .int t_parts, .ref t_sort_a, .ref t_predicate_a, .ref t_firstTerm_a, .ref t_termMany_a, .ref t_partPlace_a, .int t_terms, .ref t_term_a, .ref t_depends_a, .int t_ruleCount, .ref t_partCount_a, .ref t_partSort_a, .ref t_partPredicate_a, .ref t_partTerms_a, .ref t_termOf_a, .ref t_variableCount_a, .ref t_kind_a, .ref t_width_a, .ref t_stratum_a, .ref t_holds_a, .ref t_held_a, .ref t_kept_a, .int t_changes, .int t_staged, .ref t_stage_a, .int c_t_logged, .int c_t_safe, .ref t_logs_a, .ref t_value_a, .int t_wanted, .int t_count, .int t_fresh])), (t_kind_a, .inl (cI, 10, .inl t_kind)), (t_holds_a, .inl (cZ, 17280, .inl t_holds)), (t_kept_a, .inl (cZ, 17280, .inl f4))] := hD
            obtain ⟨v5, ev5⟩ : ∃ y : Int32, y = y1 + (1 : Int32) := ⟨_, rfl⟩
            have hm := lt_at ev5 hm
            refine lv_iinc (v := v5) (lv' := [(1, .int v5), (0, .ref t)]) hx hb dX9_checkpoint_48 hl (k := 0) rfl (by rw [ev5]; rfl) (by decide) rfl (fun ls hl => ?_)
            refine lv_goto (tgt := 7) hx hb dX9_checkpoint_51 (by decide) ?_
            exact ih v5 f4 z hm hE H locs ls hP hD hS (lv_sub hl [0, 1] rfl)
          · have hm := if_t hc hm
            refine lv_iconst (v := (1 : Int32)) hx hb dX9_checkpoint_42 (by decide) ?_
            refine lv_goto (tgt := 47) hx hb dX9_checkpoint_43 (by decide) ?_
            refine k_zast hx hb hK hP hD hS 3 2 rfl rfl (gd_in hm) dX9_checkpoint_47 (fun f6 ef6 H locs hP hD hS => ?_)
            have hm := lt_at ef6 (gd_go hm)
            have hP : va_P D vwCl [(t, .inr (9, [.int c_t_thrown, .ref t_tape_a, .int t_taped, .int t_fault, .int t_faultPlace, .int t_at, .int t_rules, .ref t_firstPart_a, .ref t_partMany_a, .ref t_rulePlace_a, .int t_parts, .ref t_sort_a, .ref t_predicate_a, .ref t_firstTerm_a, .ref t_termMany_a, .ref t_partPlace_a, .int t_terms, .ref t_term_a, .ref t_depends_a, .int t_ruleCount, .ref t_partCount_a, .ref t_partSort_a, .ref t_partPredicate_a, .ref t_partTerms_a, .ref t_termOf_a, .ref t_variableCount_a, .ref t_kind_a, .ref t_width_a, .ref t_stratum_a, .ref t_holds_a, .ref t_held_a, .ref t_kept_a, .int t_changes, .int t_staged, .ref t_stage_a, .int c_t_logged, .int c_t_safe, .ref t_logs_a, .ref t_value_a, .int t_wanted, .int t_count, .int t_fresh])), (t_kind_a, .inl (cI, 10, .inl t_kind)), (t_holds_a, .inl (cZ, 17280, .inl t_holds)), (t_kept_a, .inl (cZ, 17280, .inl f6))] H := hP
            have hD : va_D A [(t, .inr (9, [.int c_t_thrown, .ref t_tape_a, .int t_taped, .int t_fault, .int t_faultPlace, .int t_at, .int t_rules, .ref t_firstPart_a, .ref t_partMany_a, .ref t_rulePlace_a, .int t_parts, .ref t_sort_a, .ref t_predicate_a, .ref t_firstTerm_a, .ref t_termMany_a, .ref t_partPlace_a, .int t_terms, .ref t_term_a, .ref t_depends_a, .int t_ruleCount, .ref t_partCount_a, .ref t_partSort_a, .ref t_partPredicate_a, .ref t_partTerms_a, .ref t_termOf_a, .ref t_variableCount_a, .ref t_kind_a, .ref t_width_a, .ref t_stratum_a, .ref t_holds_a, .ref t_held_a, .ref t_kept_a, .int t_changes, .int t_staged, .ref t_stage_a, .int c_t_logged, .int c_t_safe, .ref t_logs_a, .ref t_value_a, .int t_wanted, .int t_count, .int t_fresh])), (t_kind_a, .inl (cI, 10, .inl t_kind)), (t_holds_a, .inl (cZ, 17280, .inl t_holds)), (t_kept_a, .inl (cZ, 17280, .inl f6))] := hD
            obtain ⟨v7, ev7⟩ : ∃ y : Int32, y = y1 + (1 : Int32) := ⟨_, rfl⟩
            have hm := lt_at ev7 hm
            refine lv_iinc (v := v7) (lv' := [(1, .int v7), (0, .ref t)]) hx hb dX9_checkpoint_48 hl (k := 0) rfl (by rw [ev7]; rfl) (by decide) rfl (fun ls hl => ?_)
            refine lv_goto (tgt := 7) hx hb dX9_checkpoint_51 (by decide) ?_
            exact ih v7 f6 z hm hE H locs ls hP hD hS (lv_sub hl [0, 1] rfl)
  unfold M_Model_checkpoint at hm
  obtain ⟨H, eH⟩ : ∃ H, H = s.heap := ⟨_, rfl⟩
  obtain ⟨locs, el⟩ : ∃ x : List Loc, x = [] := ⟨_, rfl⟩
  have hP : va_P D vwCl [(t, .inr (9, [.int t_thrown, .ref t_tape_a, .int t_taped, .int t_fault, .int t_faultPlace, .int t_at, .int t_rules, .ref t_firstPart_a, .ref t_partMany_a, .ref t_rulePlace_a, .int t_parts, .ref t_sort_a, .ref t_predicate_a, .ref t_firstTerm_a, .ref t_termMany_a, .ref t_partPlace_a, .int t_terms, .ref t_term_a, .ref t_depends_a, .int t_ruleCount, .ref t_partCount_a, .ref t_partSort_a, .ref t_partPredicate_a, .ref t_partTerms_a, .ref t_termOf_a, .ref t_variableCount_a, .ref t_kind_a, .ref t_width_a, .ref t_stratum_a, .ref t_holds_a, .ref t_held_a, .ref t_kept_a, .int t_changes, .int t_staged, .ref t_stage_a, .int t_logged, .int t_safe, .ref t_logs_a, .ref t_value_a, .int t_wanted, .int t_count, .int t_fresh])), (t_kind_a, .inl (cI, 10, .inl t_kind)), (t_holds_a, .inl (cZ, 17280, .inl t_holds)), (t_kept_a, .inl (cZ, 17280, .inl t_kept))] H := eH ▸ hP
  have hS : va_S A s.heap H locs := by rw [eH, el]; exact hS
  suffices hW : W p l e { frames := 1, cells := 0, slots := 0, locals := 23 } s m args below meth c H locs 0 0 Q (F0 m 0 ls []) by rw [eH, el] at hW; exact hW
  clear eH el
  refine lv_aload_n hx hb dX9_checkpoint_0 rfl (lv_at hl 0 rfl) ?_
  refine lv_iconst (v := (0 : Int32)) hx hb dX9_checkpoint_1 (by decide) ?_
  refine va_put (D := D) (ci := 9) (v := .int (0 : Int32)) (ty := .int) (C := RX9) (T := TX9) (N := 42) hx hb hts in_X9 tyX9 tyX9_ok nmX9 hown hK hP hD hS 0 rfl rfl 0 (by decide) (hts _ kf_X9_89) (fun _ h9 => h9) rfl (by decide +kernel) rfl rfl (Nat.le_of_ble_eq_true rfl) dX9_checkpoint_2 (fun H locs hP hD hS => ?_)
  have hP : va_P D vwCl [(t, .inr (9, [.int (0 : Int32), .ref t_tape_a, .int t_taped, .int t_fault, .int t_faultPlace, .int t_at, .int t_rules, .ref t_firstPart_a, .ref t_partMany_a, .ref t_rulePlace_a, .int t_parts, .ref t_sort_a, .ref t_predicate_a, .ref t_firstTerm_a, .ref t_termMany_a, .ref t_partPlace_a, .int t_terms, .ref t_term_a, .ref t_depends_a, .int t_ruleCount, .ref t_partCount_a, .ref t_partSort_a, .ref t_partPredicate_a, .ref t_partTerms_a, .ref t_termOf_a, .ref t_variableCount_a, .ref t_kind_a, .ref t_width_a, .ref t_stratum_a, .ref t_holds_a, .ref t_held_a, .ref t_kept_a, .int t_changes, .int t_staged, .ref t_stage_a, .int t_logged, .int t_safe, .ref t_logs_a, .ref t_value_a, .int t_wanted, .int t_count, .int t_fresh])), (t_kind_a, .inl (cI, 10, .inl t_kind)), (t_holds_a, .inl (cZ, 17280, .inl t_holds)), (t_kept_a, .inl (cZ, 17280, .inl t_kept))] H := hP
  have hD : va_D A [(t, .inr (9, [.int (0 : Int32), .ref t_tape_a, .int t_taped, .int t_fault, .int t_faultPlace, .int t_at, .int t_rules, .ref t_firstPart_a, .ref t_partMany_a, .ref t_rulePlace_a, .int t_parts, .ref t_sort_a, .ref t_predicate_a, .ref t_firstTerm_a, .ref t_termMany_a, .ref t_partPlace_a, .int t_terms, .ref t_term_a, .ref t_depends_a, .int t_ruleCount, .ref t_partCount_a, .ref t_partSort_a, .ref t_partPredicate_a, .ref t_partTerms_a, .ref t_termOf_a, .ref t_variableCount_a, .ref t_kind_a, .ref t_width_a, .ref t_stratum_a, .ref t_holds_a, .ref t_held_a, .ref t_kept_a, .int t_changes, .int t_staged, .ref t_stage_a, .int t_logged, .int t_safe, .ref t_logs_a, .ref t_value_a, .int t_wanted, .int t_count, .int t_fresh])), (t_kind_a, .inl (cI, 10, .inl t_kind)), (t_holds_a, .inl (cZ, 17280, .inl t_holds)), (t_kept_a, .inl (cZ, 17280, .inl t_kept))] := hD
  refine lv_iconst (v := (0 : Int32)) hx hb dX9_checkpoint_5 (by decide) ?_
  refine lv_istore_n (lv' := [(1, .int (0 : Int32)), (0, .ref t)]) hx hb dX9_checkpoint_6 rfl hl (by decide) rfl (fun ls hl => ?_)
  obtain ⟨z8, hz8, hm⟩ := bd_at hm
  refine L7 (0 : Int32) t_logged t_safe F (0 : Int32) t_kept z8 hz8 (fun H locs ls hP hD hS hl => ?_) H locs ls hP hD hS (lv_sub hl [0, 1] rfl)
  refine lv_aload_n hx hb dX9_checkpoint_54 rfl (lv_at hl 0 rfl) ?_
  refine lv_iconst (v := (0 : Int32)) hx hb dX9_checkpoint_55 (by decide) ?_
  refine va_put (D := D) (ci := 9) (v := .int (0 : Int32)) (ty := .int) (C := RX9) (T := TX9) (N := 42) hx hb hts in_X9 tyX9 tyX9_ok nmX9 hown hK hP hD hS 0 rfl rfl 35 (by decide) (hts _ kf_X9_196) (fun _ h9 => h9) rfl (by decide +kernel) rfl rfl (Nat.le_of_ble_eq_true rfl) dX9_checkpoint_56 (fun H locs hP hD hS => ?_)
  have hP : va_P D vwCl [(t, .inr (9, [.int (0 : Int32), .ref t_tape_a, .int t_taped, .int t_fault, .int t_faultPlace, .int t_at, .int t_rules, .ref t_firstPart_a, .ref t_partMany_a, .ref t_rulePlace_a, .int t_parts, .ref t_sort_a, .ref t_predicate_a, .ref t_firstTerm_a, .ref t_termMany_a, .ref t_partPlace_a, .int t_terms, .ref t_term_a, .ref t_depends_a, .int t_ruleCount, .ref t_partCount_a, .ref t_partSort_a, .ref t_partPredicate_a, .ref t_partTerms_a, .ref t_termOf_a, .ref t_variableCount_a, .ref t_kind_a, .ref t_width_a, .ref t_stratum_a, .ref t_holds_a, .ref t_held_a, .ref t_kept_a, .int t_changes, .int t_staged, .ref t_stage_a, .int (0 : Int32), .int t_safe, .ref t_logs_a, .ref t_value_a, .int t_wanted, .int t_count, .int t_fresh])), (t_kind_a, .inl (cI, 10, .inl t_kind)), (t_holds_a, .inl (cZ, 17280, .inl t_holds)), (t_kept_a, .inl (cZ, 17280, .inl z8))] H := hP
  have hD : va_D A [(t, .inr (9, [.int (0 : Int32), .ref t_tape_a, .int t_taped, .int t_fault, .int t_faultPlace, .int t_at, .int t_rules, .ref t_firstPart_a, .ref t_partMany_a, .ref t_rulePlace_a, .int t_parts, .ref t_sort_a, .ref t_predicate_a, .ref t_firstTerm_a, .ref t_termMany_a, .ref t_partPlace_a, .int t_terms, .ref t_term_a, .ref t_depends_a, .int t_ruleCount, .ref t_partCount_a, .ref t_partSort_a, .ref t_partPredicate_a, .ref t_partTerms_a, .ref t_termOf_a, .ref t_variableCount_a, .ref t_kind_a, .ref t_width_a, .ref t_stratum_a, .ref t_holds_a, .ref t_held_a, .ref t_kept_a, .int t_changes, .int t_staged, .ref t_stage_a, .int (0 : Int32), .int t_safe, .ref t_logs_a, .ref t_value_a, .int t_wanted, .int t_count, .int t_fresh])), (t_kind_a, .inl (cI, 10, .inl t_kind)), (t_holds_a, .inl (cZ, 17280, .inl t_holds)), (t_kept_a, .inl (cZ, 17280, .inl z8))] := hD
  refine lv_aload_n hx hb dX9_checkpoint_59 rfl (lv_at hl 0 rfl) ?_
  refine lv_iconst (v := (0 : Int32)) hx hb dX9_checkpoint_60 (by decide) ?_
  refine va_put (D := D) (ci := 9) (v := .int (0 : Int32)) (ty := .int) (C := RX9) (T := TX9) (N := 42) hx hb hts in_X9 tyX9 tyX9_ok nmX9 hown hK hP hD hS 0 rfl rfl 36 (by decide) (hts _ kf_X9_199) (fun _ h9 => h9) rfl (by decide +kernel) rfl rfl (Nat.le_of_ble_eq_true rfl) dX9_checkpoint_61 (fun H locs hP hD hS => ?_)
  have hP : va_P D vwCl [(t, .inr (9, [.int (0 : Int32), .ref t_tape_a, .int t_taped, .int t_fault, .int t_faultPlace, .int t_at, .int t_rules, .ref t_firstPart_a, .ref t_partMany_a, .ref t_rulePlace_a, .int t_parts, .ref t_sort_a, .ref t_predicate_a, .ref t_firstTerm_a, .ref t_termMany_a, .ref t_partPlace_a, .int t_terms, .ref t_term_a, .ref t_depends_a, .int t_ruleCount, .ref t_partCount_a, .ref t_partSort_a, .ref t_partPredicate_a, .ref t_partTerms_a, .ref t_termOf_a, .ref t_variableCount_a, .ref t_kind_a, .ref t_width_a, .ref t_stratum_a, .ref t_holds_a, .ref t_held_a, .ref t_kept_a, .int t_changes, .int t_staged, .ref t_stage_a, .int (0 : Int32), .int (0 : Int32), .ref t_logs_a, .ref t_value_a, .int t_wanted, .int t_count, .int t_fresh])), (t_kind_a, .inl (cI, 10, .inl t_kind)), (t_holds_a, .inl (cZ, 17280, .inl t_holds)), (t_kept_a, .inl (cZ, 17280, .inl z8))] H := hP
  have hD : va_D A [(t, .inr (9, [.int (0 : Int32), .ref t_tape_a, .int t_taped, .int t_fault, .int t_faultPlace, .int t_at, .int t_rules, .ref t_firstPart_a, .ref t_partMany_a, .ref t_rulePlace_a, .int t_parts, .ref t_sort_a, .ref t_predicate_a, .ref t_firstTerm_a, .ref t_termMany_a, .ref t_partPlace_a, .int t_terms, .ref t_term_a, .ref t_depends_a, .int t_ruleCount, .ref t_partCount_a, .ref t_partSort_a, .ref t_partPredicate_a, .ref t_partTerms_a, .ref t_termOf_a, .ref t_variableCount_a, .ref t_kind_a, .ref t_width_a, .ref t_stratum_a, .ref t_holds_a, .ref t_held_a, .ref t_kept_a, .int t_changes, .int t_staged, .ref t_stage_a, .int (0 : Int32), .int (0 : Int32), .ref t_logs_a, .ref t_value_a, .int t_wanted, .int t_count, .int t_fresh])), (t_kind_a, .inl (cI, 10, .inl t_kind)), (t_holds_a, .inl (cZ, 17280, .inl t_holds)), (t_kept_a, .inl (cZ, 17280, .inl z8))] := hD
  refine lv_aload_n hx hb dX9_checkpoint_64 rfl (lv_at hl 0 rfl) ?_
  refine lv_aload_n hx hb dX9_checkpoint_65 rfl (lv_at hl 0 rfl) ?_
  refine va_get (D := D) (ci := 9) (v := .ref t_kept_a) (C := RX9) (T := TX9) (N := 42) hx hb hts in_X9 hown hK hP 0 rfl rfl 31 (by decide) (hts _ kf_X9_77) (fun _ h9 => h9) rfl dX9_checkpoint_66 ?_
  obtain ⟨z9, hz9, hm⟩ := bd_at hm
  refine k_callV (As := [.ref t_kept_a]) (rest := []) (wr := [(t_holds_a, .inl (cZ, 17280, .inl t_holds))]) (ws1 := [(t, .inr (9, [.int (0 : Int32), .ref t_tape_a, .int t_taped, .int t_fault, .int t_faultPlace, .int t_at, .int t_rules, .ref t_firstPart_a, .ref t_partMany_a, .ref t_rulePlace_a, .int t_parts, .ref t_sort_a, .ref t_predicate_a, .ref t_firstTerm_a, .ref t_termMany_a, .ref t_partPlace_a, .int t_terms, .ref t_term_a, .ref t_depends_a, .int t_ruleCount, .ref t_partCount_a, .ref t_partSort_a, .ref t_partPredicate_a, .ref t_partTerms_a, .ref t_termOf_a, .ref t_variableCount_a, .ref t_kind_a, .ref t_width_a, .ref t_stratum_a, .ref t_holds_a, .ref t_held_a, .ref t_kept_a, .int t_changes, .int t_staged, .ref t_stage_a, .int (0 : Int32), .int (0 : Int32), .ref t_logs_a, .ref t_value_a, .int t_wanted, .int t_count, .int t_fresh])), (t_kind_a, .inl (cI, 10, .inl t_kind)), (t_holds_a, .inl (cZ, 17280, .inl t_holds)), (t_kept_a, .inl (cZ, 17280, .inl z8))]) [0, 1, 3] [2] [1, 2, 0, 3] (K_Model_baseMany l D cB cI cZ cJ t t_tape_a t_firstPart_a t_partMany_a t_rulePlace_a t_sort_a t_predicate_a t_firstTerm_a t_termMany_a t_partPlace_a t_term_a t_depends_a t_partCount_a t_partSort_a t_partPredicate_a t_partTerms_a t_termOf_a t_variableCount_a t_kind_a t_width_a t_stratum_a t_holds_a t_held_a t_kept_a t_stage_a t_logs_a t_value_a (0 : Int32) t_taped t_fault t_faultPlace t_at t_rules t_parts t_terms t_ruleCount t_changes t_staged (0 : Int32) (0 : Int32) t_wanted t_count t_fresh t_kind z8 F z9 hz9) mf_X9_baseMany km_X9_263 hx hb hml hown hts hK hP hD hS hA hl.1 ⟨Nat.zero_le _, Nat.zero_le _⟩ dX9_checkpoint_69 rfl rfl (Nat.le_of_ble_eq_true rfl) ⟨⟨rfl, rfl⟩, Nat.le_of_ble_eq_true rfl, Nat.le_of_ble_eq_true rfl⟩ rfl rfl (by decide) rfl rfl rfl rfl (fun H locs hP hD hS => ?_)
  have hP : va_P D vwCl [(t, .inr (9, [.int (0 : Int32), .ref t_tape_a, .int t_taped, .int t_fault, .int t_faultPlace, .int t_at, .int t_rules, .ref t_firstPart_a, .ref t_partMany_a, .ref t_rulePlace_a, .int t_parts, .ref t_sort_a, .ref t_predicate_a, .ref t_firstTerm_a, .ref t_termMany_a, .ref t_partPlace_a, .int t_terms, .ref t_term_a, .ref t_depends_a, .int t_ruleCount, .ref t_partCount_a, .ref t_partSort_a, .ref t_partPredicate_a, .ref t_partTerms_a, .ref t_termOf_a, .ref t_variableCount_a, .ref t_kind_a, .ref t_width_a, .ref t_stratum_a, .ref t_holds_a, .ref t_held_a, .ref t_kept_a, .int t_changes, .int t_staged, .ref t_stage_a, .int (0 : Int32), .int (0 : Int32), .ref t_logs_a, .ref t_value_a, .int t_wanted, .int t_count, .int t_fresh])), (t_kind_a, .inl (cI, 10, .inl t_kind)), (t_holds_a, .inl (cZ, 17280, .inl t_holds)), (t_kept_a, .inl (cZ, 17280, .inl z8))] H := hP
  have hD : va_D A [(t, .inr (9, [.int (0 : Int32), .ref t_tape_a, .int t_taped, .int t_fault, .int t_faultPlace, .int t_at, .int t_rules, .ref t_firstPart_a, .ref t_partMany_a, .ref t_rulePlace_a, .int t_parts, .ref t_sort_a, .ref t_predicate_a, .ref t_firstTerm_a, .ref t_termMany_a, .ref t_partPlace_a, .int t_terms, .ref t_term_a, .ref t_depends_a, .int t_ruleCount, .ref t_partCount_a, .ref t_partSort_a, .ref t_partPredicate_a, .ref t_partTerms_a, .ref t_termOf_a, .ref t_variableCount_a, .ref t_kind_a, .ref t_width_a, .ref t_stratum_a, .ref t_holds_a, .ref t_held_a, .ref t_kept_a, .int t_changes, .int t_staged, .ref t_stage_a, .int (0 : Int32), .int (0 : Int32), .ref t_logs_a, .ref t_value_a, .int t_wanted, .int t_count, .int t_fresh])), (t_kind_a, .inl (cI, 10, .inl t_kind)), (t_holds_a, .inl (cZ, 17280, .inl t_holds)), (t_kept_a, .inl (cZ, 17280, .inl z8))] := hD
  have ho := Option.some.inj hm
  exact k_iret hx hb hr hlocks hK hP hD hS dX9_checkpoint_72 hQ (by rw [← ho]) (by rw [← ho])
noncomputable def M_Model_log (F : Nat) (t_thrown : Int32) (t_kind : Nat → Int32) (t_kept : Nat → Int32) (t_staged : Int32) (t_logged : Int32) (t_safe : Int32) (x0 : Int32) : Option ((Int32) × (Int32)) := if x0 = 0 then (some (t_logged, (0 : Int32))) else (if x0 = (1 : Int32) then (some (t_safe, (0 : Int32))) else (if x0 = (2 : Int32) then (some (t_staged, (0 : Int32))) else (if x0 = (3 : Int32) then (bd_ (M_Model_baseMany F t_kind t_kept) fun z1 => some (z1, (0 : Int32))) else (some ((-1 : Int32), (0 : Int32))))))
set_option maxRecDepth 100000 in
set_option maxHeartbeats 4000000 in
theorem K_Model_log (l : Launch) (D : va_G) (cB cI cZ cJ : ClassId) (t : Nat) (t_tape_a : Nat) (t_firstPart_a : Nat) (t_partMany_a : Nat) (t_rulePlace_a : Nat) (t_sort_a : Nat) (t_predicate_a : Nat) (t_firstTerm_a : Nat) (t_termMany_a : Nat) (t_partPlace_a : Nat) (t_term_a : Nat) (t_depends_a : Nat) (t_partCount_a : Nat) (t_partSort_a : Nat) (t_partPredicate_a : Nat) (t_partTerms_a : Nat) (t_termOf_a : Nat) (t_variableCount_a : Nat) (t_kind_a : Nat) (t_width_a : Nat) (t_stratum_a : Nat) (t_holds_a : Nat) (t_held_a : Nat) (t_kept_a : Nat) (t_stage_a : Nat) (t_logs_a : Nat) (t_value_a : Nat) (t_thrown : Int32) (t_taped : Int32) (t_fault : Int32) (t_faultPlace : Int32) (t_at : Int32) (t_rules : Int32) (t_parts : Int32) (t_terms : Int32) (t_ruleCount : Int32) (t_changes : Int32) (t_staged : Int32) (t_logged : Int32) (t_safe : Int32) (t_wanted : Int32) (t_count : Int32) (t_fresh : Int32) (t_kind : Nat → Int32) (t_kept : Nat → Int32) (x0 : Int32) (F : Nat) (out : (Int32) × (Int32)) (hm : M_Model_log F t_thrown t_kind t_kept t_staged t_logged t_safe x0 = some out) : KC l yX9_log cX9_log 2 (some .int) { frames := 1, cells := 0, slots := 0, locals := 23 } D (kTy cB cI cZ cJ) [.ref t, .int x0] [(t, .inr (9, [.int t_thrown, .ref t_tape_a, .int t_taped, .int t_fault, .int t_faultPlace, .int t_at, .int t_rules, .ref t_firstPart_a, .ref t_partMany_a, .ref t_rulePlace_a, .int t_parts, .ref t_sort_a, .ref t_predicate_a, .ref t_firstTerm_a, .ref t_termMany_a, .ref t_partPlace_a, .int t_terms, .ref t_term_a, .ref t_depends_a, .int t_ruleCount, .ref t_partCount_a, .ref t_partSort_a, .ref t_partPredicate_a, .ref t_partTerms_a, .ref t_termOf_a, .ref t_variableCount_a, .ref t_kind_a, .ref t_width_a, .ref t_stratum_a, .ref t_holds_a, .ref t_held_a, .ref t_kept_a, .int t_changes, .int t_staged, .ref t_stage_a, .int t_logged, .int t_safe, .ref t_logs_a, .ref t_value_a, .int t_wanted, .int t_count, .int t_fresh])), (t_kind_a, .inl (cI, 10, .inl t_kind)), (t_kept_a, .inl (cZ, 17280, .inl t_kept))] (some (.int out.1)) [(t, .inr (9, [.int out.2, .ref t_tape_a, .int t_taped, .int t_fault, .int t_faultPlace, .int t_at, .int t_rules, .ref t_firstPart_a, .ref t_partMany_a, .ref t_rulePlace_a, .int t_parts, .ref t_sort_a, .ref t_predicate_a, .ref t_firstTerm_a, .ref t_termMany_a, .ref t_partPlace_a, .int t_terms, .ref t_term_a, .ref t_depends_a, .int t_ruleCount, .ref t_partCount_a, .ref t_partSort_a, .ref t_partPredicate_a, .ref t_partTerms_a, .ref t_termOf_a, .ref t_variableCount_a, .ref t_kind_a, .ref t_width_a, .ref t_stratum_a, .ref t_holds_a, .ref t_held_a, .ref t_kept_a, .int t_changes, .int t_staged, .ref t_stage_a, .int t_logged, .int t_safe, .ref t_logs_a, .ref t_value_a, .int t_wanted, .int t_count, .int t_fresh])), (t_kind_a, .inl (cI, 10, .inl t_kind)), (t_kept_a, .inl (cZ, 17280, .inl t_kept))] := by
  refine KC.of (by decide +kernel) (Nat.le_of_ble_eq_true rfl) ?_
  intro p e s m below meth c A ls args Q hQ CX hA hK hP hD hl
  obtain ⟨hx, hb, hr, hml, hown, hts, hlocks⟩ := CX
  have hown : s.vm.findClass RX9 = some m.cls := hown
  have hS : va_S A s.heap s.heap [] := va_S.rf
  have hl : lv_has ls 2 [(0, .ref t), (1, .int x0)] := hl
  unfold M_Model_log at hm
  obtain ⟨H, eH⟩ : ∃ H, H = s.heap := ⟨_, rfl⟩
  obtain ⟨locs, el⟩ : ∃ x : List Loc, x = [] := ⟨_, rfl⟩
  have hP : va_P D vwCl [(t, .inr (9, [.int t_thrown, .ref t_tape_a, .int t_taped, .int t_fault, .int t_faultPlace, .int t_at, .int t_rules, .ref t_firstPart_a, .ref t_partMany_a, .ref t_rulePlace_a, .int t_parts, .ref t_sort_a, .ref t_predicate_a, .ref t_firstTerm_a, .ref t_termMany_a, .ref t_partPlace_a, .int t_terms, .ref t_term_a, .ref t_depends_a, .int t_ruleCount, .ref t_partCount_a, .ref t_partSort_a, .ref t_partPredicate_a, .ref t_partTerms_a, .ref t_termOf_a, .ref t_variableCount_a, .ref t_kind_a, .ref t_width_a, .ref t_stratum_a, .ref t_holds_a, .ref t_held_a, .ref t_kept_a, .int t_changes, .int t_staged, .ref t_stage_a, .int t_logged, .int t_safe, .ref t_logs_a, .ref t_value_a, .int t_wanted, .int t_count, .int t_fresh])), (t_kind_a, .inl (cI, 10, .inl t_kind)), (t_kept_a, .inl (cZ, 17280, .inl t_kept))] H := eH ▸ hP
  have hS : va_S A s.heap H locs := by rw [eH, el]; exact hS
  suffices hW : W p l e { frames := 1, cells := 0, slots := 0, locals := 23 } s m args below meth c H locs 0 0 Q (F0 m 0 ls []) by rw [eH, el] at hW; exact hW
  clear eH el
  refine lv_aload_n hx hb dX9_log_0 rfl (lv_at hl 0 rfl) ?_
  refine lv_iconst (v := (0 : Int32)) hx hb dX9_log_1 (by decide) ?_
  refine va_put (D := D) (ci := 9) (v := .int (0 : Int32)) (ty := .int) (C := RX9) (T := TX9) (N := 42) hx hb hts in_X9 tyX9 tyX9_ok nmX9 hown hK hP hD hS 0 rfl rfl 0 (by decide) (hts _ kf_X9_89) (fun _ h9 => h9) rfl (by decide +kernel) rfl rfl (Nat.le_of_ble_eq_true rfl) dX9_log_2 (fun H locs hP hD hS => ?_)
  have hP : va_P D vwCl [(t, .inr (9, [.int (0 : Int32), .ref t_tape_a, .int t_taped, .int t_fault, .int t_faultPlace, .int t_at, .int t_rules, .ref t_firstPart_a, .ref t_partMany_a, .ref t_rulePlace_a, .int t_parts, .ref t_sort_a, .ref t_predicate_a, .ref t_firstTerm_a, .ref t_termMany_a, .ref t_partPlace_a, .int t_terms, .ref t_term_a, .ref t_depends_a, .int t_ruleCount, .ref t_partCount_a, .ref t_partSort_a, .ref t_partPredicate_a, .ref t_partTerms_a, .ref t_termOf_a, .ref t_variableCount_a, .ref t_kind_a, .ref t_width_a, .ref t_stratum_a, .ref t_holds_a, .ref t_held_a, .ref t_kept_a, .int t_changes, .int t_staged, .ref t_stage_a, .int t_logged, .int t_safe, .ref t_logs_a, .ref t_value_a, .int t_wanted, .int t_count, .int t_fresh])), (t_kind_a, .inl (cI, 10, .inl t_kind)), (t_kept_a, .inl (cZ, 17280, .inl t_kept))] H := hP
  have hD : va_D A [(t, .inr (9, [.int (0 : Int32), .ref t_tape_a, .int t_taped, .int t_fault, .int t_faultPlace, .int t_at, .int t_rules, .ref t_firstPart_a, .ref t_partMany_a, .ref t_rulePlace_a, .int t_parts, .ref t_sort_a, .ref t_predicate_a, .ref t_firstTerm_a, .ref t_termMany_a, .ref t_partPlace_a, .int t_terms, .ref t_term_a, .ref t_depends_a, .int t_ruleCount, .ref t_partCount_a, .ref t_partSort_a, .ref t_partPredicate_a, .ref t_partTerms_a, .ref t_termOf_a, .ref t_variableCount_a, .ref t_kind_a, .ref t_width_a, .ref t_stratum_a, .ref t_holds_a, .ref t_held_a, .ref t_kept_a, .int t_changes, .int t_staged, .ref t_stage_a, .int t_logged, .int t_safe, .ref t_logs_a, .ref t_value_a, .int t_wanted, .int t_count, .int t_fresh])), (t_kind_a, .inl (cI, 10, .inl t_kind)), (t_kept_a, .inl (cZ, 17280, .inl t_kept))] := hD
  refine lv_iload_n hx hb dX9_log_5 rfl (lv_at hl 1 rfl) ?_
  refine lv_if_ne (tgt := 16) hx hb dX9_log_6 (by decide) (fun hc => ?_) (fun hc => ?_)
  · have hm := if_f hc hm
    refine lv_iload_n hx hb dX9_log_16 rfl (lv_at hl 1 rfl) ?_
    refine lv_iconst (v := (1 : Int32)) hx hb dX9_log_17 (by decide) ?_
    refine lv_icmp_ne (tgt := 28) hx hb dX9_log_18 (by decide) (fun hc => ?_) (fun hc => ?_)
    · have hm := if_f hc hm
      refine lv_iload_n hx hb dX9_log_28 rfl (lv_at hl 1 rfl) ?_
      refine lv_iconst (v := (2 : Int32)) hx hb dX9_log_29 (by decide) ?_
      refine lv_icmp_ne (tgt := 40) hx hb dX9_log_30 (by decide) (fun hc => ?_) (fun hc => ?_)
      · have hm := if_f hc hm
        refine lv_iload_n hx hb dX9_log_40 rfl (lv_at hl 1 rfl) ?_
        refine lv_iconst (v := (3 : Int32)) hx hb dX9_log_41 (by decide) ?_
        refine lv_icmp_ne (tgt := 56) hx hb dX9_log_42 (by decide) (fun hc => ?_) (fun hc => ?_)
        · have hm := if_f hc hm
          refine lv_iconst (v := (-1 : Int32)) hx hb dX9_log_56 (by decide) ?_
          have ho := Option.some.inj hm
          exact k_iret hx hb hr hlocks hK hP hD hS dX9_log_57 hQ (by rw [← ho]) (by rw [← ho])
        · have hm := if_t hc hm
          refine lv_aload_n hx hb dX9_log_45 rfl (lv_at hl 0 rfl) ?_
          refine lv_aload_n hx hb dX9_log_46 rfl (lv_at hl 0 rfl) ?_
          refine va_get (D := D) (ci := 9) (v := .ref t_kept_a) (C := RX9) (T := TX9) (N := 42) hx hb hts in_X9 hown hK hP 0 rfl rfl 31 (by decide) (hts _ kf_X9_77) (fun _ h9 => h9) rfl dX9_log_47 ?_
          obtain ⟨z1, hz1, hm⟩ := bd_at hm
          refine k_callV (As := [.ref t_kept_a]) (rest := []) (wr := []) (ws1 := [(t, .inr (9, [.int (0 : Int32), .ref t_tape_a, .int t_taped, .int t_fault, .int t_faultPlace, .int t_at, .int t_rules, .ref t_firstPart_a, .ref t_partMany_a, .ref t_rulePlace_a, .int t_parts, .ref t_sort_a, .ref t_predicate_a, .ref t_firstTerm_a, .ref t_termMany_a, .ref t_partPlace_a, .int t_terms, .ref t_term_a, .ref t_depends_a, .int t_ruleCount, .ref t_partCount_a, .ref t_partSort_a, .ref t_partPredicate_a, .ref t_partTerms_a, .ref t_termOf_a, .ref t_variableCount_a, .ref t_kind_a, .ref t_width_a, .ref t_stratum_a, .ref t_holds_a, .ref t_held_a, .ref t_kept_a, .int t_changes, .int t_staged, .ref t_stage_a, .int t_logged, .int t_safe, .ref t_logs_a, .ref t_value_a, .int t_wanted, .int t_count, .int t_fresh])), (t_kind_a, .inl (cI, 10, .inl t_kind)), (t_kept_a, .inl (cZ, 17280, .inl t_kept))]) [0, 1, 2] [] [0, 1, 2] (K_Model_baseMany l D cB cI cZ cJ t t_tape_a t_firstPart_a t_partMany_a t_rulePlace_a t_sort_a t_predicate_a t_firstTerm_a t_termMany_a t_partPlace_a t_term_a t_depends_a t_partCount_a t_partSort_a t_partPredicate_a t_partTerms_a t_termOf_a t_variableCount_a t_kind_a t_width_a t_stratum_a t_holds_a t_held_a t_kept_a t_stage_a t_logs_a t_value_a (0 : Int32) t_taped t_fault t_faultPlace t_at t_rules t_parts t_terms t_ruleCount t_changes t_staged t_logged t_safe t_wanted t_count t_fresh t_kind t_kept F z1 hz1) mf_X9_baseMany km_X9_263 hx hb hml hown hts hK hP hD hS hA hl.1 ⟨Nat.zero_le _, Nat.zero_le _⟩ dX9_log_50 rfl rfl (Nat.le_of_ble_eq_true rfl) ⟨⟨rfl, rfl⟩, Nat.le_of_ble_eq_true rfl, Nat.le_of_ble_eq_true rfl⟩ rfl rfl (by decide) rfl rfl rfl rfl (fun H locs hP hD hS => ?_)
          have hP : va_P D vwCl [(t, .inr (9, [.int (0 : Int32), .ref t_tape_a, .int t_taped, .int t_fault, .int t_faultPlace, .int t_at, .int t_rules, .ref t_firstPart_a, .ref t_partMany_a, .ref t_rulePlace_a, .int t_parts, .ref t_sort_a, .ref t_predicate_a, .ref t_firstTerm_a, .ref t_termMany_a, .ref t_partPlace_a, .int t_terms, .ref t_term_a, .ref t_depends_a, .int t_ruleCount, .ref t_partCount_a, .ref t_partSort_a, .ref t_partPredicate_a, .ref t_partTerms_a, .ref t_termOf_a, .ref t_variableCount_a, .ref t_kind_a, .ref t_width_a, .ref t_stratum_a, .ref t_holds_a, .ref t_held_a, .ref t_kept_a, .int t_changes, .int t_staged, .ref t_stage_a, .int t_logged, .int t_safe, .ref t_logs_a, .ref t_value_a, .int t_wanted, .int t_count, .int t_fresh])), (t_kind_a, .inl (cI, 10, .inl t_kind)), (t_kept_a, .inl (cZ, 17280, .inl t_kept))] H := hP
          have hD : va_D A [(t, .inr (9, [.int (0 : Int32), .ref t_tape_a, .int t_taped, .int t_fault, .int t_faultPlace, .int t_at, .int t_rules, .ref t_firstPart_a, .ref t_partMany_a, .ref t_rulePlace_a, .int t_parts, .ref t_sort_a, .ref t_predicate_a, .ref t_firstTerm_a, .ref t_termMany_a, .ref t_partPlace_a, .int t_terms, .ref t_term_a, .ref t_depends_a, .int t_ruleCount, .ref t_partCount_a, .ref t_partSort_a, .ref t_partPredicate_a, .ref t_partTerms_a, .ref t_termOf_a, .ref t_variableCount_a, .ref t_kind_a, .ref t_width_a, .ref t_stratum_a, .ref t_holds_a, .ref t_held_a, .ref t_kept_a, .int t_changes, .int t_staged, .ref t_stage_a, .int t_logged, .int t_safe, .ref t_logs_a, .ref t_value_a, .int t_wanted, .int t_count, .int t_fresh])), (t_kind_a, .inl (cI, 10, .inl t_kind)), (t_kept_a, .inl (cZ, 17280, .inl t_kept))] := hD
          refine lv_goto (tgt := 57) hx hb dX9_log_53 (by decide) ?_
          have ho := Option.some.inj hm
          exact k_iret hx hb hr hlocks hK hP hD hS dX9_log_57 hQ (by rw [← ho]) (by rw [← ho])
      · have hm := if_t hc hm
        refine lv_aload_n hx hb dX9_log_33 rfl (lv_at hl 0 rfl) ?_
        refine va_get (D := D) (ci := 9) (v := .int t_staged) (C := RX9) (T := TX9) (N := 42) hx hb hts in_X9 hown hK hP 0 rfl rfl 33 (by decide) (hts _ kf_X9_193) (fun _ h9 => h9) rfl dX9_log_34 ?_
        refine lv_goto (tgt := 57) hx hb dX9_log_37 (by decide) ?_
        have ho := Option.some.inj hm
        exact k_iret hx hb hr hlocks hK hP hD hS dX9_log_57 hQ (by rw [← ho]) (by rw [← ho])
    · have hm := if_t hc hm
      refine lv_aload_n hx hb dX9_log_21 rfl (lv_at hl 0 rfl) ?_
      refine va_get (D := D) (ci := 9) (v := .int t_safe) (C := RX9) (T := TX9) (N := 42) hx hb hts in_X9 hown hK hP 0 rfl rfl 36 (by decide) (hts _ kf_X9_199) (fun _ h9 => h9) rfl dX9_log_22 ?_
      refine lv_goto (tgt := 57) hx hb dX9_log_25 (by decide) ?_
      have ho := Option.some.inj hm
      exact k_iret hx hb hr hlocks hK hP hD hS dX9_log_57 hQ (by rw [← ho]) (by rw [← ho])
  · have hm := if_t hc hm
    refine lv_aload_n hx hb dX9_log_9 rfl (lv_at hl 0 rfl) ?_
    refine va_get (D := D) (ci := 9) (v := .int t_logged) (C := RX9) (T := TX9) (N := 42) hx hb hts in_X9 hown hK hP 0 rfl rfl 35 (by decide) (hts _ kf_X9_196) (fun _ h9 => h9) rfl dX9_log_10 ?_
    refine lv_goto (tgt := 57) hx hb dX9_log_13 (by decide) ?_
    have ho := Option.some.inj hm
    exact k_iret hx hb hr hlocks hK hP hD hS dX9_log_57 hQ (by rw [← ho]) (by rw [← ho])
