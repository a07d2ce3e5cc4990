/-! THE CLAIM OUT OF ONE WALK OF THE LAW'S BODY. Your part is whole_start (and what it stands on); all else here is the same for every law, but numbers. -/
def R_law : String := "RuleHallLaw"
def lw_P (b : Addr) (xs : List Int32) (args : Array Value) (s : State) : Prop := args = #[.ref b] ∧ s.IntsAt b xs ∧ xs.length ≤ 2560 ∧ (Jvm.Cond.and given_1 narrow_1).before args s = true
def lw_Q (_ : Array Value) (s : State) (o : Outcome) (t : State) : Prop := o = .returned (some (.int 1)) ∧ Framed s o t [] 601024 7293034
def lw_Z (below : List Frame) (a : Array Value) (s : State) : State → Prop := fun t => ∃ o, t.status = .running ∧ Ended t below o ∧ lw_Q a s o t
/-- the law's own end, with 1 on the stack, nothing written that was there before, its room as the claim has it -/
theorem lw_ret {p : Program} {l : Launch} {e : Env} {s : State} {m : MethodId} {below : List Frame} {meth : Method} {c : Code} {b : Nat} (hx : p.tables.exec = Jvm.exec) (hb : c.code = code) (hr : meth.sig.returnType = ret) (hlocks : meth.locks = false) {pc : Nat} {H : Heap} {ls : Array Slot} (hdg : decode code pc = .ok (.ireturn, 1)) : W p l e room_1 s m #[Value.ref b] below meth c H [] 601024 7293034 (lw_Z below #[Value.ref b] s) (F0 m pc ls [.int 1]) := by
  intro T hT X
  obtain ⟨fs, hret, hrun, hended, hW, hframe⟩ := X.leave (v := some (.int 1)) (hlocks := hlocks) (fun h => by rw [hr] at h; cases h)
  have hmeth' : T.vm.method? m = some meth := X.method'
  refine ⟨T.setFrames fs, ?_, .returned (some (.int 1)), hrun, hended, rfl, ⟨_, rfl⟩, hW, hframe⟩
  jvm_step X.here [X.here.top, hx, hb, hdg, hmeth', hr, ret, narrow_b1]
  (try refine ⟨rfl, ?_⟩); (try refine ⟨rfl, ?_⟩)
  first | (intro acts; rw [hret _ acts rfl rfl rfl]) | rw [hret _ _ rfl rfl rfl]
  exact Steps.refl _
/-- what holds at the law's entry: the machine, the code, the tables' words (any of lw_tbl by 'hts w (by decide +kernel)'), the script of L ints xs at the cell b, what the Statement gives of the start (any of its parts by flat_of_before) -/
def lw_At (p : Program) (s : State) (m : MethodId) (meth : Method) (c : Code) (b L : Nat) (xs : Nat → Int32) : Prop :=
  p.tables.exec = Jvm.exec ∧ c.code = code ∧ meth.sig.returnType = ret ∧ c.maxLocals = 7 ∧ s.vm.findClass R_law = some m.cls ∧ (∀ w ∈ lw_tbl, w.before #[Value.ref b] s = true) ∧ va_X b L xs s s.heap ∧ b < s.heap.size ∧ meth.locks = false ∧ (Jvm.Cond.and given_1 narrow_1).before #[Value.ref b] s = true
set_option maxRecDepth 100000 in
set_option maxHeartbeats 8000000 in
theorem law_loop {p : Program} {l : Launch} {e : Env} {s : State} {m : MethodId} {below : List Frame} {meth : Method} {c : Code} {b L : Nat} {xs : Nat → Int32} {D : va_G} {cB cI cZ cJ : ClassId} (X : LX p l s m meth c b L xs D cB cI cZ cJ) (hL : L ≤ 2560) {C0 S0 : Nat} (hroom : C0 + 600 ≤ 601024 ∧ S0 + 3600 ≤ 7293034) : ∀ (n k : Nat), 5 * k ≤ L → L < 5 * k + n → ∀ (h tp tp_text_a ip nw nw_row_a nw_count_a be be_row_a be_count_a sv sv_row_a sv_count_a st st_puts_a st_who_a st_number_a lo lo_puts_a lo_who_a lo_number_a pr pr_kind_a pr_place_a pr_who_a pr_width_a pr_term_a pr_start_a pr_sort_a pr_arity_a pr_stratum_a pr_reach_a df df_kind_a df_place_a df_who_a df_width_a df_term_a df_start_a df_sort_a df_arity_a df_stratum_a df_reach_a rd de fr fr_row_a fr_count_a la la_row_a la_count_a se se_value_a se_plan_a mo mo_tape_a mo_firstPart_a mo_partMany_a mo_rulePlace_a mo_sort_a mo_predicate_a mo_firstTerm_a mo_termMany_a mo_partPlace_a mo_term_a mo_depends_a mo_partCount_a mo_partSort_a mo_partPredicate_a mo_partTerms_a mo_termOf_a mo_variableCount_a mo_kind_a mo_width_a mo_stratum_a mo_holds_a mo_held_a mo_kept_a mo_stage_a mo_logs_a mo_value_a oa rp len K lg sa R : Nat) (tp_text : Nat → Int32) (ip_found ip_place : Int32) (nw_row nw_count be_row be_count sv_row sv_count st_puts st_who st_number lo_puts lo_who lo_number pr_kind pr_place pr_who pr_width pr_term pr_start : Nat → Int32) (pr_size : Int32) (pr_sort pr_arity pr_stratum pr_reach df_kind df_place df_who df_width df_term df_start : Nat → Int32) (df_size df_rules : Int32) (df_sort df_arity df_stratum df_reach : Nat → Int32) (rd_at rd_wrong : Int32) (fr_row fr_count la_row la_count se_value se_plan : Nat → Int32) (se_planned se_head se_end se_latestEntry se_counting se_solutions mo_thrown : Int32) (mo_tape : Nat → Int32) (mo_at mo_rules : Int32) (mo_firstPart mo_partMany mo_rulePlace : Nat → Int32) (mo_parts : Int32) (mo_sort mo_predicate mo_firstTerm mo_termMany mo_partPlace : Nat → Int32) (mo_terms : Int32) (mo_term mo_depends mo_partCount mo_partSort mo_partPredicate mo_partTerms mo_termOf mo_variableCount mo_kind mo_width mo_stratum mo_holds mo_held mo_kept : Nat → Int32) (mo_changes : Int32) (mo_stage mo_logs mo_value : Nat → Int32) (mo_wanted mo_count mo_fresh : Int32) (oaf : Nat → Int64), IV len K lg sa R mo_changes tp_text mo_tape nw_row nw_count be_row be_count sv_row sv_count fr_row fr_count la_row la_count se_value mo_holds mo_held mo_kept st_puts st_who st_number mo_stage lo_puts lo_who lo_number mo_logs df_start pr_kind pr_who pr_width pr_term pr_start pr_sort pr_arity pr_stratum pr_reach mo_partCount mo_partSort mo_partPredicate mo_partTerms mo_termOf mo_variableCount mo_kind mo_width mo_stratum → ∀ (H : Heap) (locs : List Loc) (ls : Array Slot), va_P D vwCl (LW cB cI cZ cJ h tp tp_text_a ip nw nw_row_a nw_count_a be be_row_a be_count_a sv sv_row_a sv_count_a st st_puts_a st_who_a st_number_a lo lo_puts_a lo_who_a lo_number_a pr pr_kind_a pr_place_a pr_who_a pr_width_a pr_term_a pr_start_a pr_sort_a pr_arity_a pr_stratum_a pr_reach_a df df_kind_a df_place_a df_who_a df_width_a df_term_a df_start_a df_sort_a df_arity_a df_stratum_a df_reach_a rd de fr fr_row_a fr_count_a la la_row_a la_count_a se se_value_a se_plan_a mo mo_tape_a mo_firstPart_a mo_partMany_a mo_rulePlace_a mo_sort_a mo_predicate_a mo_firstTerm_a mo_termMany_a mo_partPlace_a mo_term_a mo_depends_a mo_partCount_a mo_partSort_a mo_partPredicate_a mo_partTerms_a mo_termOf_a mo_variableCount_a mo_kind_a mo_width_a mo_stratum_a mo_holds_a mo_held_a mo_kept_a mo_stage_a mo_logs_a mo_value_a oa rp len K lg sa R tp_text ip_found ip_place nw_row nw_count be_row be_count sv_row sv_count st_puts st_who st_number lo_puts lo_who lo_number pr_kind pr_place pr_who pr_width pr_term pr_start pr_size pr_sort pr_arity pr_stratum pr_reach df_kind df_place df_who df_width df_term df_start df_size df_rules df_sort df_arity df_stratum df_reach rd_at rd_wrong fr_row fr_count la_row la_count se_value se_plan se_planned se_head se_end se_latestEntry se_counting se_solutions mo_thrown mo_tape mo_at mo_rules mo_firstPart mo_partMany mo_rulePlace mo_parts mo_sort mo_predicate mo_firstTerm mo_termMany mo_partPlace mo_terms mo_term mo_depends mo_partCount mo_partSort mo_partPredicate mo_partTerms mo_termOf mo_variableCount mo_kind mo_width mo_stratum mo_holds mo_held mo_kept mo_changes mo_stage mo_logs mo_value mo_wanted mo_count mo_fresh oaf) H → va_D (LA s) (LW cB cI cZ cJ h tp tp_text_a ip nw nw_row_a nw_count_a be be_row_a be_count_a sv sv_row_a sv_count_a st st_puts_a st_who_a st_number_a lo lo_puts_a lo_who_a lo_number_a pr pr_kind_a pr_place_a pr_who_a pr_width_a pr_term_a pr_start_a pr_sort_a pr_arity_a pr_stratum_a pr_reach_a df df_kind_a df_place_a df_who_a df_width_a df_term_a df_start_a df_sort_a df_arity_a df_stratum_a df_reach_a rd de fr fr_row_a fr_count_a la la_row_a la_count_a se se_value_a se_plan_a mo mo_tape_a mo_firstPart_a mo_partMany_a mo_rulePlace_a mo_sort_a mo_predicate_a mo_firstTerm_a mo_termMany_a mo_partPlace_a mo_term_a mo_depends_a mo_partCount_a mo_partSort_a mo_partPredicate_a mo_partTerms_a mo_termOf_a mo_variableCount_a mo_kind_a mo_width_a mo_stratum_a mo_holds_a mo_held_a mo_kept_a mo_stage_a mo_logs_a mo_value_a oa rp len K lg sa R tp_text ip_found ip_place nw_row nw_count be_row be_count sv_row sv_count st_puts st_who st_number lo_puts lo_who lo_number pr_kind pr_place pr_who pr_width pr_term pr_start pr_size pr_sort pr_arity pr_stratum pr_reach df_kind df_place df_who df_width df_term df_start df_size df_rules df_sort df_arity df_stratum df_reach rd_at rd_wrong fr_row fr_count la_row la_count se_value se_plan se_planned se_head se_end se_latestEntry se_counting se_solutions mo_thrown mo_tape mo_at mo_rules mo_firstPart mo_partMany mo_rulePlace mo_parts mo_sort mo_predicate mo_firstTerm mo_termMany mo_partPlace mo_terms mo_term mo_depends mo_partCount mo_partSort mo_partPredicate mo_partTerms mo_termOf mo_variableCount mo_kind mo_width mo_stratum mo_holds mo_held mo_kept mo_changes mo_stage mo_logs mo_value mo_wanted mo_count mo_fresh oaf) → va_S (LA s) s.heap H locs → lv_has ls 7 [(4, .int (nI (5 * k))), (3, .ref oa), (2, .ref mo), (1, .ref h), (0, .ref b)] → W p l e room_1 s m #[Value.ref b] below meth c H locs (C0 + k) (S0 + 6 * k) (lw_Z below #[Value.ref b] s) (F0 m 23 ls []) := by
  intro n
  induction n with
  | zero => intro k h1 h2; exact absurd h2 (by omega)
  | succ n ih =>
    intro k h1 h2 h tp tp_text_a ip nw nw_row_a nw_count_a be be_row_a be_count_a sv sv_row_a sv_count_a st st_puts_a st_who_a st_number_a lo lo_puts_a lo_who_a lo_number_a pr pr_kind_a pr_place_a pr_who_a pr_width_a pr_term_a pr_start_a pr_sort_a pr_arity_a pr_stratum_a pr_reach_a df df_kind_a df_place_a df_who_a df_width_a df_term_a df_start_a df_sort_a df_arity_a df_stratum_a df_reach_a rd de fr fr_row_a fr_count_a la la_row_a la_count_a se se_value_a se_plan_a mo mo_tape_a mo_firstPart_a mo_partMany_a mo_rulePlace_a mo_sort_a mo_predicate_a mo_firstTerm_a mo_termMany_a mo_partPlace_a mo_term_a mo_depends_a mo_partCount_a mo_partSort_a mo_partPredicate_a mo_partTerms_a mo_termOf_a mo_variableCount_a mo_kind_a mo_width_a mo_stratum_a mo_holds_a mo_held_a mo_kept_a mo_stage_a mo_logs_a mo_value_a oa rp len K lg sa R tp_text ip_found ip_place nw_row nw_count be_row be_count sv_row sv_count st_puts st_who st_number lo_puts lo_who lo_number pr_kind pr_place pr_who pr_width pr_term pr_start pr_size pr_sort pr_arity pr_stratum pr_reach df_kind df_place df_who df_width df_term df_start df_size df_rules df_sort df_arity df_stratum df_reach rd_at rd_wrong fr_row fr_count la_row la_count se_value se_plan se_planned se_head se_end se_latestEntry se_counting se_solutions mo_thrown mo_tape mo_at mo_rules mo_firstPart mo_partMany mo_rulePlace mo_parts mo_sort mo_predicate mo_firstTerm mo_termMany mo_partPlace mo_terms mo_term mo_depends mo_partCount mo_partSort mo_partPredicate mo_partTerms mo_termOf mo_variableCount mo_kind mo_width mo_stratum mo_holds mo_held mo_kept mo_changes mo_stage mo_logs mo_value mo_wanted mo_count mo_fresh oaf iv H locs ls hP hD hS hl
    have X9 := X
    obtain ⟨hx, hb, hr, hml, hown, hts, hlocks, hK, hX0, hbl, hst, hXT, hXa, hXi⟩ := X
    have hbA : ¬ LA s b := Nat.not_le.mpr hbl
    refine lv_iload hx hb dL_law_23 (lv_at hl 0 rfl) ?_
    refine lv_aload_n hx hb dL_law_25 rfl (lv_at hl 4 rfl) ?_
    refine va_slen hx hb hX0 hbl hbA hS dL_law_26 ?_
    refine lv_iconst (v := (5 : Int32)) hx hb dL_law_27 (by decide) ?_
    refine lv_isub hx hb dL_law_28 ?_
    refine lv_icmp_gt (tgt := 736) hx hb dL_law_29 (by decide) (fun hc => ?_) (fun hc => ?_)
    · refine lv_iconst (v := (1 : Int32)) hx hb dL_law_736 (by decide) ?_
      refine W.widen (k := 601024) (n := 7293034) (by omega) (by omega) ?_
      refine va_forget (fun q hq => hS.2.2 q hq) ?_
      exact lw_ret hx hb hr hlocks dL_law_737
    · have h5 : 5 * k + 5 ≤ L := by
        have e1 : (nI L - 5).toInt = (L : Int) - 5 := by
          rw [Int32.toInt_sub, nI_toInt (by omega), show (5 : Int32).toInt = 5 from rfl]
          exact Int.bmod_eq_of_le (by omega) (by omega)
        have e2 : (nI (5 * k)).toInt = ((5 * k : Nat) : Int) := nI_toInt (by omega)
        have hc2 : ¬ (nI L - 5) < nI (5 * k) := hc
        rw [Int32.lt_iff_toInt_lt, e1, e2] at hc2
        omega
      have kk : LK p l e s m below meth c b D cB cI cZ cJ (nI (5 * k)) (C0 + k + 1) (S0 + 6 * k + 6) (lw_Z below #[Value.ref b] s) := by
        intro h tp tp_text_a ip nw nw_row_a nw_count_a be be_row_a be_count_a sv sv_row_a sv_count_a st st_puts_a st_who_a st_number_a lo lo_puts_a lo_who_a lo_number_a pr pr_kind_a pr_place_a pr_who_a pr_width_a pr_term_a pr_start_a pr_sort_a pr_arity_a pr_stratum_a pr_reach_a df df_kind_a df_place_a df_who_a df_width_a df_term_a df_start_a df_sort_a df_arity_a df_stratum_a df_reach_a rd de fr fr_row_a fr_count_a la la_row_a la_count_a se se_value_a se_plan_a mo mo_tape_a mo_firstPart_a mo_partMany_a mo_rulePlace_a mo_sort_a mo_predicate_a mo_firstTerm_a mo_termMany_a mo_partPlace_a mo_term_a mo_depends_a mo_partCount_a mo_partSort_a mo_partPredicate_a mo_partTerms_a mo_termOf_a mo_variableCount_a mo_kind_a mo_width_a mo_stratum_a mo_holds_a mo_held_a mo_kept_a mo_stage_a mo_logs_a mo_value_a oa rp len K lg sa R tp_text ip_found ip_place nw_row nw_count be_row be_count sv_row sv_count st_puts st_who st_number lo_puts lo_who lo_number pr_kind pr_place pr_who pr_width pr_term pr_start pr_size pr_sort pr_arity pr_stratum pr_reach df_kind df_place df_who df_width df_term df_start df_size df_rules df_sort df_arity df_stratum df_reach rd_at rd_wrong fr_row fr_count la_row la_count se_value se_plan se_planned se_head se_end se_latestEntry se_counting se_solutions mo_thrown mo_tape mo_at mo_rules mo_firstPart mo_partMany mo_rulePlace mo_parts mo_sort mo_predicate mo_firstTerm mo_termMany mo_partPlace mo_terms mo_term mo_depends mo_partCount mo_partSort mo_partPredicate mo_partTerms mo_termOf mo_variableCount mo_kind mo_width mo_stratum mo_holds mo_held mo_kept mo_changes mo_stage mo_logs mo_value mo_wanted mo_count mo_fresh oaf iv H locs ls hP hD hS hl
        refine lv_iinc (v := nI (5 * (k + 1))) (lv' := [(4, .int (nI (5 * (k + 1)))), (3, .ref oa), (2, .ref mo), (1, .ref h), (0, .ref b)]) hx hb dL_law_730 hl (k := 0) rfl ((show nI (5 * k) + nI 5 = nI (5 * k + 5) from nI_add _ 5).trans (congrArg nI (by omega))) (by decide) rfl (fun ls hl => ?_)
        refine lv_goto (tgt := 23) hx hb dL_law_733 (by decide) ?_
        have hw := ih (k + 1) (by omega) (by omega) h tp tp_text_a ip nw nw_row_a nw_count_a be be_row_a be_count_a sv sv_row_a sv_count_a st st_puts_a st_who_a st_number_a lo lo_puts_a lo_who_a lo_number_a pr pr_kind_a pr_place_a pr_who_a pr_width_a pr_term_a pr_start_a pr_sort_a pr_arity_a pr_stratum_a pr_reach_a df df_kind_a df_place_a df_who_a df_width_a df_term_a df_start_a df_sort_a df_arity_a df_stratum_a df_reach_a rd de fr fr_row_a fr_count_a la la_row_a la_count_a se se_value_a se_plan_a mo mo_tape_a mo_firstPart_a mo_partMany_a mo_rulePlace_a mo_sort_a mo_predicate_a mo_firstTerm_a mo_termMany_a mo_partPlace_a mo_term_a mo_depends_a mo_partCount_a mo_partSort_a mo_partPredicate_a mo_partTerms_a mo_termOf_a mo_variableCount_a mo_kind_a mo_width_a mo_stratum_a mo_holds_a mo_held_a mo_kept_a mo_stage_a mo_logs_a mo_value_a oa rp len K lg sa R tp_text ip_found ip_place nw_row nw_count be_row be_count sv_row sv_count st_puts st_who st_number lo_puts lo_who lo_number pr_kind pr_place pr_who pr_width pr_term pr_start pr_size pr_sort pr_arity pr_stratum pr_reach df_kind df_place df_who df_width df_term df_start df_size df_rules df_sort df_arity df_stratum df_reach rd_at rd_wrong fr_row fr_count la_row la_count se_value se_plan se_planned se_head se_end se_latestEntry se_counting se_solutions mo_thrown mo_tape mo_at mo_rules mo_firstPart mo_partMany mo_rulePlace mo_parts mo_sort mo_predicate mo_firstTerm mo_termMany mo_partPlace mo_terms mo_term mo_depends mo_partCount mo_partSort mo_partPredicate mo_partTerms mo_termOf mo_variableCount mo_kind mo_width mo_stratum mo_holds mo_held mo_kept mo_changes mo_stage mo_logs mo_value mo_wanted mo_count mo_fresh oaf iv H locs ls hP hD hS hl
        rw [show S0 + 6 * (k + 1) = S0 + 6 * k + 6 by omega] at hw
        exact hw
      have hC : C0 + k + 1 ≤ 601024 ∧ S0 + 6 * k + 6 ≤ 7293034 := ⟨by omega, by omega⟩
      have hv : ∀ v : Int32, v = 1 ∨ v = 2 ∨ v = 3 ∨ v = 4 → vp_in (nI (5 * k) + v) L := by
        intro v hv
        rcases hv with rfl | rfl | rfl | rfl
        · exact (show nI (5 * k) + nI 1 = nI (5 * k + 1) from nI_add _ 1) ▸ vp_in_nI (by omega) (by omega)
        · exact (show nI (5 * k) + nI 2 = nI (5 * k + 2) from nI_add _ 2) ▸ vp_in_nI (by omega) (by omega)
        · exact (show nI (5 * k) + nI 3 = nI (5 * k + 3) from nI_add _ 3) ▸ vp_in_nI (by omega) (by omega)
        · exact (show nI (5 * k) + nI 4 = nI (5 * k + 4) from nI_add _ 4) ▸ vp_in_nI (by omega) (by omega)
      have hF : 24506 < 24507 := by decide
      refine lv_aload_n hx hb dL_law_32 rfl (lv_at hl 4 rfl) ?_
      refine lv_iload hx hb dL_law_33 (lv_at hl 0 rfl) ?_
      refine va_sld hx hb hX0 hbl hbA hS (vp_in_nI (by omega) (by omega)) dL_law_35 ?_
      refine lv_bipush (v := (15 : Int32)) hx hb dL_law_36 (by decide) ?_
      refine lv_iand hx hb dL_law_38 ?_
      refine lv_topi (fun sw esw => ?_)
      by_cases hs0 : sw = (0 : Int32)
      · refine k_tIn (tgt := 116) hx hb (0 : Int32) hs0 dL_law_39 (by decide) rfl (by decide) ?_
        exact LC_type X9 hF hv hC iv hP hD hS hl kk
      by_cases hs1 : sw = (1 : Int32)
      · refine k_tIn (tgt := 185) hx hb (1 : Int32) hs1 dL_law_39 (by decide) rfl (by decide) ?_
        exact LC_compile X9 hF hv hC iv hP hD hS hl kk
      by_cases hs2 : sw = (2 : Int32)
      · refine k_tIn (tgt := 229) hx hb (2 : Int32) hs2 dL_law_39 (by decide) rfl (by decide) ?_
        exact LC_fault X9 hF hv hC iv hP hD hS hl kk
      by_cases hs3 : sw = (3 : Int32)
      · refine k_tIn (tgt := 254) hx hb (3 : Int32) hs3 dL_law_39 (by decide) rfl (by decide) ?_
        exact LC_predicate X9 hF hv hC iv hP hD hS hl kk
      by_cases hs4 : sw = (4 : Int32)
      · refine k_tIn (tgt := 291) hx hb (4 : Int32) hs4 dL_law_39 (by decide) rfl (by decide) ?_
        exact LC_put X9 hF hv hC iv hP hD hS hl kk
      by_cases hs5 : sw = (5 : Int32)
      · refine k_tIn (tgt := 352) hx hb (5 : Int32) hs5 dL_law_39 (by decide) rfl (by decide) ?_
        exact LC_remove X9 hF hv hC iv hP hD hS hl kk
      by_cases hs6 : sw = (6 : Int32)
      · refine k_tIn (tgt := 413) hx hb (6 : Int32) hs6 dL_law_39 (by decide) rfl (by decide) ?_
        exact LC_commit X9 hF hv hC iv hP hD hS hl kk
      by_cases hs7 : sw = (7 : Int32)
      · refine k_tIn (tgt := 457) hx hb (7 : Int32) hs7 dL_law_39 (by decide) rfl (by decide) ?_
        exact LC_abort X9 hF hv hC iv hP hD hS hl kk
      by_cases hs8 : sw = (8 : Int32)
      · refine k_tIn (tgt := 470) hx hb (8 : Int32) hs8 dL_law_39 (by decide) rfl (by decide) ?_
        exact LC_holds X9 hF hv hC iv hP hD hS hl kk
      by_cases hs9 : sw = (9 : Int32)
      · refine k_tIn (tgt := 531) hx hb (9 : Int32) hs9 dL_law_39 (by decide) rfl (by decide) ?_
        exact LC_fact X9 hF hv hC iv hP hD hS hl kk
      by_cases hs10 : sw = (10 : Int32)
      · refine k_tIn (tgt := 568) hx hb (10 : Int32) hs10 dL_law_39 (by decide) rfl (by decide) ?_
        exact LC_derivations X9 hF hv hC iv hP hD hS hl kk
      by_cases hs11 : sw = (11 : Int32)
      · refine k_tIn (tgt := 629) hx hb (11 : Int32) hs11 dL_law_39 (by decide) rfl (by decide) ?_
        exact LC_changed X9 hF hv hC iv hP hD hS hl kk
      by_cases hs12 : sw = (12 : Int32)
      · refine k_tIn (tgt := 666) hx hb (12 : Int32) hs12 dL_law_39 (by decide) rfl (by decide) ?_
        exact LC_sync X9 hF hv hC iv hP hD hS hl kk
      by_cases hs13 : sw = (13 : Int32)
      · refine k_tIn (tgt := 679) hx hb (13 : Int32) hs13 dL_law_39 (by decide) rfl (by decide) ?_
        exact LC_checkpoint X9 hF hv hC iv hP hD hS hl kk
      by_cases hs14 : sw = (14 : Int32)
      · refine k_tIn (tgt := 692) hx hb (14 : Int32) hs14 dL_law_39 (by decide) rfl (by decide) ?_
        exact LC_crash X9 hF hv hC iv hP hD hS hl kk
      by_cases hs15 : sw = (15 : Int32)
      · refine k_tIn (tgt := 705) hx hb (15 : Int32) hs15 dL_law_39 (by decide) rfl (by decide) ?_
        exact LC_log X9 hF hv hC iv hP hD hS hl kk
      refine k_tOut (tgt := 730) hx hb dL_law_39 (fun v h1 h2 => ?_) (by decide) ?_
      · have h3 : v = 0 ∨ v = 1 ∨ v = 2 ∨ v = 3 ∨ v = 4 ∨ v = 5 ∨ v = 6 ∨ v = 7 ∨ v = 8 ∨ v = 9 ∨ v = 10 ∨ v = 11 ∨ v = 12 ∨ v = 13 ∨ v = 14 ∨ v = 15 := by omega
        rcases h3 with rfl | rfl | rfl | rfl | rfl | rfl | rfl | rfl | rfl | rfl | rfl | rfl | rfl | rfl | rfl | rfl
        · exact hs0
        · exact hs1
        · exact hs2
        · exact hs3
        · exact hs4
        · exact hs5
        · exact hs6
        · exact hs7
        · exact hs8
        · exact hs9
        · exact hs10
        · exact hs11
        · exact hs12
        · exact hs13
        · exact hs14
        · exact hs15
      · refine W.widen (k := C0 + k + 1) (n := S0 + 6 * k + 6) (by omega) (by omega) ?_
        exact kk h tp tp_text_a ip nw nw_row_a nw_count_a be be_row_a be_count_a sv sv_row_a sv_count_a st st_puts_a st_who_a st_number_a lo lo_puts_a lo_who_a lo_number_a pr pr_kind_a pr_place_a pr_who_a pr_width_a pr_term_a pr_start_a pr_sort_a pr_arity_a pr_stratum_a pr_reach_a df df_kind_a df_place_a df_who_a df_width_a df_term_a df_start_a df_sort_a df_arity_a df_stratum_a df_reach_a rd de fr fr_row_a fr_count_a la la_row_a la_count_a se se_value_a se_plan_a mo mo_tape_a mo_firstPart_a mo_partMany_a mo_rulePlace_a mo_sort_a mo_predicate_a mo_firstTerm_a mo_termMany_a mo_partPlace_a mo_term_a mo_depends_a mo_partCount_a mo_partSort_a mo_partPredicate_a mo_partTerms_a mo_termOf_a mo_variableCount_a mo_kind_a mo_width_a mo_stratum_a mo_holds_a mo_held_a mo_kept_a mo_stage_a mo_logs_a mo_value_a oa rp len K lg sa R tp_text ip_found ip_place nw_row nw_count be_row be_count sv_row sv_count st_puts st_who st_number lo_puts lo_who lo_number pr_kind pr_place pr_who pr_width pr_term pr_start pr_size pr_sort pr_arity pr_stratum pr_reach df_kind df_place df_who df_width df_term df_start df_size df_rules df_sort df_arity df_stratum df_reach rd_at rd_wrong fr_row fr_count la_row la_count se_value se_plan se_planned se_head se_end se_latestEntry se_counting se_solutions mo_thrown mo_tape mo_at mo_rules mo_firstPart mo_partMany mo_rulePlace mo_parts mo_sort mo_predicate mo_firstTerm mo_termMany mo_partPlace mo_terms mo_term mo_depends mo_partCount mo_partSort mo_partPredicate mo_partTerms mo_termOf mo_variableCount mo_kind mo_width mo_stratum mo_holds mo_held mo_kept mo_changes mo_stage mo_logs mo_value mo_wanted mo_count mo_fresh oaf iv H locs ls hP hD hS hl
