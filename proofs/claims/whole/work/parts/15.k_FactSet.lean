theorem kf_X1_11 : Cond.fieldLink RX1 11 "RuleHall$FactSet" "row" "[I" ∈ kT := k_in 129 (by decide +kernel)
theorem kf_X1_15 : Cond.fieldLink RX1 15 "RuleHall$FactSet" "count" "[I" ∈ kT := k_in 130 (by decide +kernel)
theorem km_X1_18 : Cond.methodLink RX1 18 yX1_has ∈ kT := k_in 577 (by decide +kernel)
theorem km_X1_22 : Cond.methodLink RX1 22 yX1_empty ∈ kT := k_in 825 (by decide +kernel)
theorem km_X1_26 : Cond.methodLink RX1 26 arraycopyName ∈ kT := k_in 553 (by decide +kernel)
theorem km_X1_32 : Cond.methodLink RX1 32 yJ6_bitCount_0f7a4 ∈ kT := k_in 441 (by decide +kernel)
theorem km_X1_38 : Cond.methodLink RX1 38 yX1_nthBit ∈ kT := k_in 447 (by decide +kernel)
theorem km_X1_42 : Cond.methodLink RX1 42 yX1_differences ∈ kT := k_in 858 (by decide +kernel)
theorem mf_X1_differences : MF yX1_differences cX1_differences 6 (some .int) 2 := ⟨k_in 530 (by decide +kernel), k_in 531 (by decide +kernel), k_in 73 (by decide +kernel), k_in 532 (by decide +kernel), ⟨by decide +kernel, by decide +kernel, by decide +kernel⟩⟩
theorem mf_X1_empty : MF yX1_empty cX1_empty 3 none 1 := ⟨k_in 587 (by decide +kernel), k_in 588 (by decide +kernel), k_in 73 (by decide +kernel), k_in 589 (by decide +kernel), ⟨by decide +kernel, by decide +kernel, by decide +kernel⟩⟩
theorem mf_X1_has : MF yX1_has cX1_has 3 (some .boolean) 2 := ⟨k_in 430 (by decide +kernel), k_in 431 (by decide +kernel), k_in 73 (by decide +kernel), k_in 432 (by decide +kernel), ⟨by decide +kernel, by decide +kernel, by decide +kernel⟩⟩
theorem ms_X1_nthBit : MS yX1_nthBit cX1_nthBit 4 (some .int) 2 := ⟨k_in 448 (by decide +kernel), k_in 73 (by decide +kernel), k_in 449 (by decide +kernel), ⟨by decide +kernel, by decide +kernel, by decide +kernel⟩⟩
theorem ms_J6_bitCount_0f7a4 : MS yJ6_bitCount_0f7a4 cJ6_bitCount_0f7a4 1 (some .int) 1 := ⟨k_in 442 (by decide +kernel), k_in 81 (by decide +kernel), k_in 443 (by decide +kernel), ⟨by decide +kernel, by decide +kernel, by decide +kernel⟩⟩
noncomputable def M_FactSet_size (t_count : Nat → Int32) (x0 : Int32) : Option ((Int32)) := gd_ x0 10 <| some (t_count x0.toNatClampNeg)
set_option maxRecDepth 100000 in
set_option maxHeartbeats 4000000 in
theorem K_FactSet_size (l : Launch) (D : va_G) (cB cI cZ cJ : ClassId) (t : Nat) (t_row_a : Nat) (t_count_a : Nat) (t_count : Nat → Int32) (x0 : Int32) (out : (Int32)) (hm : M_FactSet_size t_count x0 = some out) : KC l yX1_size cX1_size 2 (some .int) { frames := 0, cells := 0, slots := 0, locals := 0 } D (kTy cB cI cZ cJ) [.ref t, .int x0] [(t, .inr (1, [.ref t_row_a, .ref t_count_a])), (t_count_a, .inl (cI, 10, .inl t_count))] (some (.int out)) [(t, .inr (1, [.ref t_row_a, .ref t_count_a])), (t_count_a, .inl (cI, 10, .inl t_count))] := by
  refine KC.of (by decide +kernel) (Nat.le_of_ble_eq_true rfl) ?_
  intro p e s m below meth c A ls args Q hQ CX hA hK hP hD hl
  obtain ⟨hx, hb, hr, hml, hown, hts, hlocks⟩ := CX
  have hown : s.vm.findClass RX1 = some m.cls := hown
  have hS : va_S A s.heap s.heap [] := va_S.rf
  have hl : lv_has ls 2 [(0, .ref t), (1, .int x0)] := hl
  unfold M_FactSet_size at hm
  obtain ⟨H, eH⟩ : ∃ H, H = s.heap := ⟨_, rfl⟩
  obtain ⟨locs, el⟩ : ∃ x : List Loc, x = [] := ⟨_, rfl⟩
  have hP : va_P D vwCl [(t, .inr (1, [.ref t_row_a, .ref t_count_a])), (t_count_a, .inl (cI, 10, .inl t_count))] H := eH ▸ hP
  have hS : va_S A s.heap H locs := by rw [eH, el]; exact hS
  suffices hW : W p l e { frames := 0, cells := 0, slots := 0, locals := 0 } s m args below meth c H locs 0 0 Q (F0 m 0 ls []) by rw [eH, el] at hW; exact hW
  clear eH el
  refine lv_aload_n hx hb dX1_size_0 rfl (lv_at hl 0 rfl) ?_
  refine va_get (D := D) (ci := 1) (v := .ref t_count_a) (C := RX1) (T := TX1) (N := 2) hx hb hts in_X1 hown hK hP 0 rfl rfl 1 (by decide) (hts _ kf_X1_15) (fun _ h9 => h9) rfl dX1_size_1 ?_
  refine lv_iload_n hx hb dX1_size_4 rfl (lv_at hl 1 rfl) ?_
  refine va_iald hx hb hK hP 1 1 rfl rfl (gd_in hm) dX1_size_5 ?_
  have hm := gd_go hm
  have ho := Option.some.inj hm
  exact k_iret hx hb hr hlocks hK hP hD hS dX1_size_6 hQ (by rw [← ho]) rfl
noncomputable def M_FactSet_total_L4 (F : Nat) (t_count : Nat → Int32) : Nat → Int32 → Int32 → Option ((Int32))
  | 0, _, _ => none
  | n + 1, y2, y1 => if (10 : Int32) ≤ y2 then (some y1) else (gd_ y2 10 <| lt_ ((y1 + (t_count y2.toNatClampNeg))) fun v1 => lt_ (y2 + (1 : Int32)) fun v2 => M_FactSet_total_L4 F t_count n v2 v1)
noncomputable def M_FactSet_total (F : Nat) (t_count : Nat → Int32) : Option ((Int32)) := bd_ (M_FactSet_total_L4 F t_count F (0 : Int32) (0 : Int32)) fun z3 => some z3
set_option maxRecDepth 100000 in
set_option maxHeartbeats 4000000 in
theorem K_FactSet_total (l : Launch) (D : va_G) (cB cI cZ cJ : ClassId) (t : Nat) (t_row_a : Nat) (t_count_a : Nat) (t_count : Nat → Int32) (F : Nat) (out : (Int32)) (hm : M_FactSet_total F t_count = some out) : KC l yX1_total cX1_total 3 (some .int) { frames := 0, cells := 0, slots := 0, locals := 0 } D (kTy cB cI cZ cJ) [.ref t] [(t, .inr (1, [.ref t_row_a, .ref t_count_a])), (t_count_a, .inl (cI, 10, .inl t_count))] (some (.int out)) [(t, .inr (1, [.ref t_row_a, .ref t_count_a])), (t_count_a, .inl (cI, 10, .inl t_count))] := by
  refine KC.of (by decide +kernel) (Nat.le_of_ble_eq_true rfl) ?_
  intro p e s m below meth c A ls args Q hQ CX hA hK hP hD hl
  obtain ⟨hx, hb, hr, hml, hown, hts, hlocks⟩ := CX
  have hown : s.vm.findClass RX1 = some m.cls := hown
  have hS : va_S A s.heap s.heap [] := va_S.rf
  have hl : lv_has ls 3 [(0, .ref t)] := hl
  have L4 : ∀ (n : Nat) (y2 : Int32) (y1 : Int32) (z : ((Int32))), M_FactSet_total_L4 F t_count n y2 y1 = some z →
      (∀ (H : Heap) (locs : List Loc) (ls : Array Slot), va_P D vwCl [(t, .inr (1, [.ref t_row_a, .ref t_count_a])), (t_count_a, .inl (cI, 10, .inl t_count))] H → va_D A [(t, .inr (1, [.ref t_row_a, .ref t_count_a])), (t_count_a, .inl (cI, 10, .inl t_count))] → va_S A s.heap H locs → lv_has ls 3 [(1, .int z)] → W p l e { frames := 0, cells := 0, slots := 0, locals := 0 } s m args below meth c H locs 0 0 Q (F0 m 25 ls [])) →
      ∀ (H : Heap) (locs : List Loc) (ls : Array Slot), va_P D vwCl [(t, .inr (1, [.ref t_row_a, .ref t_count_a])), (t_count_a, .inl (cI, 10, .inl t_count))] H → va_D A [(t, .inr (1, [.ref t_row_a, .ref t_count_a])), (t_count_a, .inl (cI, 10, .inl t_count))] → va_S A s.heap H locs → lv_has ls 3 [(2, .int y2), (1, .int y1), (0, .ref t)] → W p l e { frames := 0, cells := 0, slots := 0, locals := 0 } s m args below meth c H locs 0 0 Q (F0 m 4 ls []) := by
    intro  n
    induction n with
    | zero => intro y2 y1 z hm; unfold M_FactSet_total_L4 at hm; cases hm
    | succ n ih =>
      intro y2 y1 z hm hE H locs ls hP hD hS hl
      unfold M_FactSet_total_L4 at hm
      refine lv_iload_n hx hb dX1_total_4 rfl (lv_at hl 0 rfl) ?_
      refine lv_bipush (v := (10 : Int32)) hx hb dX1_total_5 (by decide) ?_
      refine lv_icmp_ge (tgt := 25) hx hb dX1_total_7 (by decide) (fun hc => ?_) (fun hc => ?_)
      · have hm := if_t hc hm
        cases hm
        exact hE H locs ls hP hD hS (lv_sub hl [1] rfl)
      · have hm := if_f hc hm
        refine lv_iload_n hx hb dX1_total_10 rfl (lv_at hl 1 rfl) ?_
        refine lv_aload_n hx hb dX1_total_11 rfl (lv_at hl 2 rfl) ?_
        refine va_get (D := D) (ci := 1) (v := .ref t_count_a) (C := RX1) (T := TX1) (N := 2) hx hb hts in_X1 hown hK hP 0 rfl rfl 1 (by decide) (hts _ kf_X1_15) (fun _ h9 => h9) rfl dX1_total_12 ?_
        refine lv_iload_n hx hb dX1_total_15 rfl (lv_at hl 0 rfl) ?_
        refine va_iald hx hb hK hP 1 1 rfl rfl (gd_in hm) dX1_total_16 ?_
        have hm := gd_go hm
        refine lv_iadd hx hb dX1_total_17 ?_
        refine lv_topi (fun v1 ev1 => ?_)
        have hm := lt_at ev1 hm
        refine lv_istore_n (lv' := [(1, .int v1), (2, .int y2), (0, .ref t)]) hx hb dX1_total_18 rfl hl (by decide) rfl (fun ls hl => ?_)
        obtain ⟨v2, ev2⟩ : ∃ y : Int32, y = y2 + (1 : Int32) := ⟨_, rfl⟩
        have hm := lt_at ev2 hm
        refine lv_iinc (v := v2) (lv' := [(2, .int v2), (1, .int v1), (0, .ref t)]) hx hb dX1_total_19 hl (k := 1) rfl (by rw [ev2]; rfl) (by decide) rfl (fun ls hl => ?_)
        refine lv_goto (tgt := 4) hx hb dX1_total_22 (by decide) ?_
        exact ih v2 v1 z hm hE H locs ls hP hD hS (lv_sub hl [0, 1, 2] rfl)
  unfold M_FactSet_total at hm
  obtain ⟨H, eH⟩ : ∃ H, H = s.heap := ⟨_, rfl⟩
  obtain ⟨locs, el⟩ : ∃ x : List Loc, x = [] := ⟨_, rfl⟩
  have hP : va_P D vwCl [(t, .inr (1, [.ref t_row_a, .ref t_count_a])), (t_count_a, .inl (cI, 10, .inl t_count))] H := eH ▸ hP
  have hS : va_S A s.heap H locs := by rw [eH, el]; exact hS
  suffices hW : W p l e { frames := 0, cells := 0, slots := 0, locals := 0 } s m args below meth c H locs 0 0 Q (F0 m 0 ls []) by rw [eH, el] at hW; exact hW
  clear eH el
  refine lv_iconst (v := (0 : Int32)) hx hb dX1_total_0 (by decide) ?_
  refine lv_istore_n (lv' := [(1, .int (0 : Int32)), (0, .ref t)]) hx hb dX1_total_1 rfl hl (by decide) rfl (fun ls hl => ?_)
  refine lv_iconst (v := (0 : Int32)) hx hb dX1_total_2 (by decide) ?_
  refine lv_istore_n (lv' := [(2, .int (0 : Int32)), (1, .int (0 : Int32)), (0, .ref t)]) hx hb dX1_total_3 rfl hl (by decide) rfl (fun ls hl => ?_)
  obtain ⟨z3, hz3, hm⟩ := bd_at hm
  refine L4  F (0 : Int32) (0 : Int32) z3 hz3 (fun H locs ls hP hD hS hl => ?_) H locs ls hP hD hS (lv_sub hl [0, 1, 2] rfl)
  refine lv_iload_n hx hb dX1_total_25 rfl (lv_at hl 0 rfl) ?_
  have ho := Option.some.inj hm
  exact k_iret hx hb hr hlocks hK hP hD hS dX1_total_26 hQ (by rw [← ho]) rfl
noncomputable def M_FactSet_has (t_row : Nat → Int32) (x0 : Int32) (x1 : Int32) : Option ((Int32)) := if x0 < 0 then (some (0 : Int32)) else (if (10 : Int32) ≤ x0 then (some (0 : Int32)) else (if x1 < 0 then (some (0 : Int32)) else (if x1 < (1728 : Int32) then (gd_ ((x0 * (144 : Int32)) + (x1 / (12 : Int32))) 1440 <| lt_ ((t_row ((x0 * (144 : Int32)) + (x1 / (12 : Int32))).toNatClampNeg)) fun v1 => lt_ ((v1 >>> ((x1 - x1 / (12 : Int32) * (12 : Int32)) &&& 31))) fun v2 => if (v2 &&& (1 : Int32)) = 0 then (some (0 : Int32)) else (some (1 : Int32))) else (some (0 : Int32)))))
set_option maxRecDepth 100000 in
set_option maxHeartbeats 4000000 in
theorem K_FactSet_has (l : Launch) (D : va_G) (cB cI cZ cJ : ClassId) (t : Nat) (t_row_a : Nat) (t_count_a : Nat) (t_row : Nat → Int32) (x0 : Int32) (x1 : Int32) (out : (Int32)) (hm : M_FactSet_has t_row x0 x1 = some out) : KC l yX1_has cX1_has 3 (some .boolean) { frames := 0, cells := 0, slots := 0, locals := 0 } D (kTy cB cI cZ cJ) [.ref t, .int x0, .int x1] [(t, .inr (1, [.ref t_row_a, .ref t_count_a])), (t_row_a, .inl (cI, 1440, .inl t_row))] (some (.int out)) [(t, .inr (1, [.ref t_row_a, .ref t_count_a])), (t_row_a, .inl (cI, 1440, .inl t_row))] := by
  refine KC.of (by decide +kernel) (Nat.le_of_ble_eq_true rfl) ?_
  intro p e s m below meth c A ls args Q hQ CX hA hK hP hD hl
  obtain ⟨hx, hb, hr, hml, hown, hts, hlocks⟩ := CX
  have hown : s.vm.findClass RX1 = some m.cls := hown
  have hS : va_S A s.heap s.heap [] := va_S.rf
  have hl : lv_has ls 3 [(0, .ref t), (1, .int x0), (2, .int x1)] := hl
  unfold M_FactSet_has at hm
  obtain ⟨H, eH⟩ : ∃ H, H = s.heap := ⟨_, rfl⟩
  obtain ⟨locs, el⟩ : ∃ x : List Loc, x = [] := ⟨_, rfl⟩
  have hP : va_P D vwCl [(t, .inr (1, [.ref t_row_a, .ref t_count_a])), (t_row_a, .inl (cI, 1440, .inl t_row))] H := eH ▸ hP
  have hS : va_S A s.heap H locs := by rw [eH, el]; exact hS
  suffices hW : W p l e { frames := 0, cells := 0, slots := 0, locals := 0 } s m args below meth c H locs 0 0 Q (F0 m 0 ls []) by rw [eH, el] at hW; exact hW
  clear eH el
  refine lv_iload_n hx hb dX1_has_0 rfl (lv_at hl 1 rfl) ?_
  refine lv_if_lt (tgt := 21) hx hb dX1_has_1 (by decide) (fun hc => ?_) (fun hc => ?_)
  · have hm := if_t hc hm
    refine lv_iconst (v := (0 : Int32)) hx hb dX1_has_21 (by decide) ?_
    have ho := Option.some.inj hm
    exact k_zret (by decide +kernel) hx hb hr hlocks hK hP hD hS dX1_has_22 hQ (by rw [← ho]) rfl
  · have hm := if_f hc hm
    refine lv_iload_n hx hb dX1_has_4 rfl (lv_at hl 1 rfl) ?_
    refine lv_bipush (v := (10 : Int32)) hx hb dX1_has_5 (by decide) ?_
    refine lv_icmp_ge (tgt := 21) hx hb dX1_has_7 (by decide) (fun hc => ?_) (fun hc => ?_)
    · have hm := if_t hc hm
      refine lv_iconst (v := (0 : Int32)) hx hb dX1_has_21 (by decide) ?_
      have ho := Option.some.inj hm
      exact k_zret (by decide +kernel) hx hb hr hlocks hK hP hD hS dX1_has_22 hQ (by rw [← ho]) rfl
    · have hm := if_f hc hm
      refine lv_iload_n hx hb dX1_has_10 rfl (lv_at hl 2 rfl) ?_
      refine lv_if_lt (tgt := 21) hx hb dX1_has_11 (by decide) (fun hc => ?_) (fun hc => ?_)
      · have hm := if_t hc hm
        refine lv_iconst (v := (0 : Int32)) hx hb dX1_has_21 (by decide) ?_
        have ho := Option.some.inj hm
        exact k_zret (by decide +kernel) hx hb hr hlocks hK hP hD hS dX1_has_22 hQ (by rw [← ho]) rfl
      · have hm := if_f hc hm
        refine lv_iload_n hx hb dX1_has_14 rfl (lv_at hl 2 rfl) ?_
        refine lv_sipush (v := (1728 : Int32)) hx hb dX1_has_15 (by decide) ?_
        refine lv_icmp_lt (tgt := 23) hx hb dX1_has_18 (by decide) (fun hc => ?_) (fun hc => ?_)
        · have hm := if_t hc hm
          refine lv_aload_n hx hb dX1_has_23 rfl (lv_at hl 0 rfl) ?_
          refine va_get (D := D) (ci := 1) (v := .ref t_row_a) (C := RX1) (T := TX1) (N := 2) hx hb hts in_X1 hown hK hP 0 rfl rfl 0 (by decide) (hts _ kf_X1_11) (fun _ h9 => h9) rfl dX1_has_24 ?_
          refine lv_iload_n hx hb dX1_has_27 rfl (lv_at hl 1 rfl) ?_
          refine lv_sipush (v := (144 : Int32)) hx hb dX1_has_28 (by decide) ?_
          refine lv_imul hx hb dX1_has_31 ?_
          refine lv_iload_n hx hb dX1_has_32 rfl (lv_at hl 2 rfl) ?_
          refine lv_bipush (v := (12 : Int32)) hx hb dX1_has_33 (by decide) ?_
          refine lv_idiv hx hb dX1_has_35 (by decide) ?_
          refine lv_iadd hx hb dX1_has_36 ?_
          refine va_iald hx hb hK hP 1 1 rfl rfl (gd_in hm) dX1_has_37 ?_
          have hm := gd_go hm
          refine lv_topi (fun v1 ev1 => ?_)
          have hm := lt_at ev1 hm
          refine lv_iload_n hx hb dX1_has_38 rfl (lv_at hl 2 rfl) ?_
          refine lv_bipush (v := (12 : Int32)) hx hb dX1_has_39 (by decide) ?_
          refine lv_irem hx hb dX1_has_41 (by decide) ?_
          refine lv_ishr hx hb dX1_has_42 ?_
          refine lv_topi (fun v2 ev2 => ?_)
          have hm := lt_at ev2 hm
          refine lv_iconst (v := (1 : Int32)) hx hb dX1_has_43 (by decide) ?_
          refine lv_iand hx hb dX1_has_44 ?_
          refine lv_if_eq (tgt := 52) hx hb dX1_has_45 (by decide) (fun hc => ?_) (fun hc => ?_)
          · have hm := if_t hc hm
            refine lv_iconst (v := (0 : Int32)) hx hb dX1_has_52 (by decide) ?_
            have ho := Option.some.inj hm
            exact k_zret (by decide +kernel) hx hb hr hlocks hK hP hD hS dX1_has_53 hQ (by rw [← ho]) rfl
          · have hm := if_f hc hm
            refine lv_iconst (v := (1 : Int32)) hx hb dX1_has_48 (by decide) ?_
            refine lv_goto (tgt := 53) hx hb dX1_has_49 (by decide) ?_
            have ho := Option.some.inj hm
            exact k_zret (by decide +kernel) hx hb hr hlocks hK hP hD hS dX1_has_53 hQ (by rw [← ho]) rfl
        · have hm := if_f hc hm
          refine lv_iconst (v := (0 : Int32)) hx hb dX1_has_21 (by decide) ?_
          have ho := Option.some.inj hm
          exact k_zret (by decide +kernel) hx hb hr hlocks hK hP hD hS dX1_has_22 hQ (by rw [← ho]) rfl
noncomputable def M_FactSet_add (t_row : Nat → Int32) (t_count : Nat → Int32) (x0 : Int32) (x1 : Int32) : Option ((Nat → Int32) × (Nat → Int32)) := if x0 < 0 then (some (t_row, t_count)) else (if (10 : Int32) ≤ x0 then (some (t_row, t_count)) else (if x1 < 0 then (some (t_row, t_count)) else (if x1 < (1728 : Int32) then (lt_ (((x0 * (144 : Int32)) + (x1 / (12 : Int32)))) fun v1 => lt_ (((1 : Int32) <<< ((x1 - x1 / (12 : Int32) * (12 : Int32)) &&& 31))) fun v2 => gd_ v1 1440 <| if ((t_row v1.toNatClampNeg) &&& v2) = 0 then (gd_ v1 1440 <| gd_ v1 1440 <| lt_ (upd t_row v1.toNatClampNeg ((t_row v1.toNatClampNeg) ||| v2)) fun f3 => gd_ x0 10 <| gd_ x0 10 <| lt_ (upd t_count x0.toNatClampNeg ((t_count x0.toNatClampNeg) + (1 : Int32))) fun f4 => some (f3, f4)) else (some (t_row, t_count))) else (some (t_row, t_count)))))
set_option maxRecDepth 100000 in
set_option maxHeartbeats 4000000 in
theorem K_FactSet_add (l : Launch) (D : va_G) (cB cI cZ cJ : ClassId) (t : Nat) (t_row_a : Nat) (t_count_a : Nat) (t_row : Nat → Int32) (t_count : Nat → Int32) (x0 : Int32) (x1 : Int32) (out : (Nat → Int32) × (Nat → Int32)) (hm : M_FactSet_add t_row t_count x0 x1 = some out) : KC l yX1_add cX1_add 5 none { frames := 0, cells := 0, slots := 0, locals := 0 } D (kTy cB cI cZ cJ) [.ref t, .int x0, .int x1] [(t, .inr (1, [.ref t_row_a, .ref t_count_a])), (t_row_a, .inl (cI, 1440, .inl t_row)), (t_count_a, .inl (cI, 10, .inl t_count))] none [(t, .inr (1, [.ref t_row_a, .ref t_count_a])), (t_row_a, .inl (cI, 1440, .inl out.1)), (t_count_a, .inl (cI, 10, .inl out.2))] := by
  refine KC.of (by decide +kernel) (Nat.le_of_ble_eq_true rfl) ?_
  intro p e s m below meth c A ls args Q hQ CX hA hK hP hD hl
  obtain ⟨hx, hb, hr, hml, hown, hts, hlocks⟩ := CX
  have hown : s.vm.findClass RX1 = some m.cls := hown
  have hS : va_S A s.heap s.heap [] := va_S.rf
  have hl : lv_has ls 5 [(0, .ref t), (1, .int x0), (2, .int x1)] := hl
  unfold M_FactSet_add at hm
  obtain ⟨H, eH⟩ : ∃ H, H = s.heap := ⟨_, rfl⟩
  obtain ⟨locs, el⟩ : ∃ x : List Loc, x = [] := ⟨_, rfl⟩
  have hP : va_P D vwCl [(t, .inr (1, [.ref t_row_a, .ref t_count_a])), (t_row_a, .inl (cI, 1440, .inl t_row)), (t_count_a, .inl (cI, 10, .inl t_count))] H := eH ▸ hP
  have hS : va_S A s.heap H locs := by rw [eH, el]; exact hS
  suffices hW : W p l e { frames := 0, cells := 0, slots := 0, locals := 0 } s m args below meth c H locs 0 0 Q (F0 m 0 ls []) by rw [eH, el] at hW; exact hW
  clear eH el
  refine lv_iload_n hx hb dX1_add_0 rfl (lv_at hl 1 rfl) ?_
  refine lv_if_lt (tgt := 21) hx hb dX1_add_1 (by decide) (fun hc => ?_) (fun hc => ?_)
  · have hm := if_t hc hm
    have ho := Option.some.inj hm
    exact k_vret hx hb hr hlocks hK hP hD hS dX1_add_21 hQ rfl (by rw [← ho])
  · have hm := if_f hc hm
    refine lv_iload_n hx hb dX1_add_4 rfl (lv_at hl 1 rfl) ?_
    refine lv_bipush (v := (10 : Int32)) hx hb dX1_add_5 (by decide) ?_
    refine lv_icmp_ge (tgt := 21) hx hb dX1_add_7 (by decide) (fun hc => ?_) (fun hc => ?_)
    · have hm := if_t hc hm
      have ho := Option.some.inj hm
      exact k_vret hx hb hr hlocks hK hP hD hS dX1_add_21 hQ rfl (by rw [← ho])
    · have hm := if_f hc hm
      refine lv_iload_n hx hb dX1_add_10 rfl (lv_at hl 2 rfl) ?_
      refine lv_if_lt (tgt := 21) hx hb dX1_add_11 (by decide) (fun hc => ?_) (fun hc => ?_)
      · have hm := if_t hc hm
        have ho := Option.some.inj hm
        exact k_vret hx hb hr hlocks hK hP hD hS dX1_add_21 hQ rfl (by rw [← ho])
      · have hm := if_f hc hm
        refine lv_iload_n hx hb dX1_add_14 rfl (lv_at hl 2 rfl) ?_
        refine lv_sipush (v := (1728 : Int32)) hx hb dX1_add_15 (by decide) ?_
        refine lv_icmp_lt (tgt := 22) hx hb dX1_add_18 (by decide) (fun hc => ?_) (fun hc => ?_)
        · have hm := if_t hc hm
          refine lv_iload_n hx hb dX1_add_22 rfl (lv_at hl 1 rfl) ?_
          refine lv_sipush (v := (144 : Int32)) hx hb dX1_add_23 (by decide) ?_
          refine lv_imul hx hb dX1_add_26 ?_
          refine lv_iload_n hx hb dX1_add_27 rfl (lv_at hl 2 rfl) ?_
          refine lv_bipush (v := (12 : Int32)) hx hb dX1_add_28 (by decide) ?_
          refine lv_idiv hx hb dX1_add_30 (by decide) ?_
          refine lv_iadd hx hb dX1_add_31 ?_
          refine lv_topi (fun v1 ev1 => ?_)
          have hm := lt_at ev1 hm
          refine lv_istore_n (lv' := [(3, .int v1), (0, .ref t), (1, .int x0), (2, .int x1)]) hx hb dX1_add_32 rfl hl (by decide) rfl (fun ls hl => ?_)
          refine lv_iconst (v := (1 : Int32)) hx hb dX1_add_33 (by decide) ?_
          refine lv_iload_n hx hb dX1_add_34 rfl (lv_at hl 3 rfl) ?_
          refine lv_bipush (v := (12 : Int32)) hx hb dX1_add_35 (by decide) ?_
          refine lv_irem hx hb dX1_add_37 (by decide) ?_
          refine lv_ishl hx hb dX1_add_38 ?_
          refine lv_topi (fun v2 ev2 => ?_)
          have hm := lt_at ev2 hm
          refine lv_istore (lv' := [(4, .int v2), (3, .int v1), (0, .ref t), (1, .int x0), (2, .int x1)]) hx hb dX1_add_39 hl (by decide) rfl (fun ls hl => ?_)
          refine lv_aload_n hx hb dX1_add_41 rfl (lv_at hl 2 rfl) ?_
          refine va_get (D := D) (ci := 1) (v := .ref t_row_a) (C := RX1) (T := TX1) (N := 2) hx hb hts in_X1 hown hK hP 0 rfl rfl 0 (by decide) (hts _ kf_X1_11) (fun _ h9 => h9) rfl dX1_add_42 ?_
          refine lv_iload_n hx hb dX1_add_45 rfl (lv_at hl 1 rfl) ?_
          refine va_iald hx hb hK hP 1 1 rfl rfl (gd_in hm) dX1_add_46 ?_
          have hm := gd_go hm
          refine lv_iload hx hb dX1_add_47 (lv_at hl 0 rfl) ?_
          refine lv_iand hx hb dX1_add_49 ?_
          refine lv_if_ne (tgt := 74) hx hb dX1_add_50 (by decide) (fun hc => ?_) (fun hc => ?_)
          · have hm := if_f hc hm
            have ho := Option.some.inj hm
            exact k_vret hx hb hr hlocks hK hP hD hS dX1_add_74 hQ rfl (by rw [← ho])
          · have hm := if_t hc hm
            refine lv_aload_n hx hb dX1_add_53 rfl (lv_at hl 2 rfl) ?_
            refine va_get (D := D) (ci := 1) (v := .ref t_row_a) (C := RX1) (T := TX1) (N := 2) hx hb hts in_X1 hown hK hP 0 rfl rfl 0 (by decide) (hts _ kf_X1_11) (fun _ h9 => h9) rfl dX1_add_54 ?_
            refine lv_iload_n hx hb dX1_add_57 rfl (lv_at hl 1 rfl) ?_
            refine lv_dup2_11 hx hb dX1_add_58 rfl rfl ?_
            refine va_iald hx hb hK hP 1 1 rfl rfl (gd_in hm) dX1_add_59 ?_
            have hm := gd_go hm
            refine lv_iload hx hb dX1_add_60 (lv_at hl 0 rfl) ?_
            refine lv_ior hx hb dX1_add_62 ?_
            refine k_iast hx hb hK hP hD hS 1 1 rfl rfl (gd_in hm) dX1_add_63 (fun f3 ef3 H locs hP hD hS => ?_)
            have hm := lt_at ef3 (gd_go hm)
            have hP : va_P D vwCl [(t, .inr (1, [.ref t_row_a, .ref t_count_a])), (t_row_a, .inl (cI, 1440, .inl f3)), (t_count_a, .inl (cI, 10, .inl t_count))] H := hP
            have hD : va_D A [(t, .inr (1, [.ref t_row_a, .ref t_count_a])), (t_row_a, .inl (cI, 1440, .inl f3)), (t_count_a, .inl (cI, 10, .inl t_count))] := hD
            refine lv_aload_n hx hb dX1_add_64 rfl (lv_at hl 2 rfl) ?_
            refine va_get (D := D) (ci := 1) (v := .ref t_count_a) (C := RX1) (T := TX1) (N := 2) hx hb hts in_X1 hown hK hP 0 rfl rfl 1 (by decide) (hts _ kf_X1_15) (fun _ h9 => h9) rfl dX1_add_65 ?_
            refine lv_iload_n hx hb dX1_add_68 rfl (lv_at hl 3 rfl) ?_
            refine lv_dup2_11 hx hb dX1_add_69 rfl rfl ?_
            refine va_iald hx hb hK hP 2 1 rfl rfl (gd_in hm) dX1_add_70 ?_
            have hm := gd_go hm
            refine lv_iconst (v := (1 : Int32)) hx hb dX1_add_71 (by decide) ?_
            refine lv_iadd hx hb dX1_add_72 ?_
            refine k_iast hx hb hK hP hD hS 2 1 rfl rfl (gd_in hm) dX1_add_73 (fun f4 ef4 H locs hP hD hS => ?_)
            have hm := lt_at ef4 (gd_go hm)
            have hP : va_P D vwCl [(t, .inr (1, [.ref t_row_a, .ref t_count_a])), (t_row_a, .inl (cI, 1440, .inl f3)), (t_count_a, .inl (cI, 10, .inl f4))] H := hP
            have hD : va_D A [(t, .inr (1, [.ref t_row_a, .ref t_count_a])), (t_row_a, .inl (cI, 1440, .inl f3)), (t_count_a, .inl (cI, 10, .inl f4))] := hD
            have ho := Option.some.inj hm
            exact k_vret hx hb hr hlocks hK hP hD hS dX1_add_74 hQ rfl (by rw [← ho])
        · have hm := if_f hc hm
          have ho := Option.some.inj hm
          exact k_vret hx hb hr hlocks hK hP hD hS dX1_add_21 hQ rfl (by rw [← ho])
noncomputable def M_FactSet_drop (t_row : Nat → Int32) (t_count : Nat → Int32) (x0 : Int32) (x1 : Int32) : Option ((Nat → Int32) × (Nat → Int32)) := bd_ (M_FactSet_has t_row x0 x1) fun z1 => if z1 = 0 then (some (t_row, t_count)) else (gd_ ((x0 * (144 : Int32)) + (x1 / (12 : Int32))) 1440 <| lt_ ((t_row ((x0 * (144 : Int32)) + (x1 / (12 : Int32))).toNatClampNeg)) fun v2 => lt_ (((1 : Int32) <<< ((x1 - x1 / (12 : Int32) * (12 : Int32)) &&& 31))) fun v3 => gd_ ((x0 * (144 : Int32)) + (x1 / (12 : Int32))) 1440 <| lt_ (upd t_row ((x0 * (144 : Int32)) + (x1 / (12 : Int32))).toNatClampNeg (v2 &&& (v3 ^^^ (-1 : Int32)))) fun f4 => gd_ x0 10 <| gd_ x0 10 <| lt_ (upd t_count x0.toNatClampNeg ((t_count x0.toNatClampNeg) - (1 : Int32))) fun f5 => some (f4, f5))
set_option maxRecDepth 100000 in
set_option maxHeartbeats 4000000 in
theorem K_FactSet_drop (l : Launch) (D : va_G) (cB cI cZ cJ : ClassId) (t : Nat) (t_row_a : Nat) (t_count_a : Nat) (t_row : Nat → Int32) (t_count : Nat → Int32) (x0 : Int32) (x1 : Int32) (out : (Nat → Int32) × (Nat → Int32)) (hm : M_FactSet_drop t_row t_count x0 x1 = some out) : KC l yX1_drop cX1_drop 3 none { frames := 1, cells := 0, slots := 0, locals := 22 } D (kTy cB cI cZ cJ) [.ref t, .int x0, .int x1] [(t, .inr (1, [.ref t_row_a, .ref t_count_a])), (t_row_a, .inl (cI, 1440, .inl t_row)), (t_count_a, .inl (cI, 10, .inl t_count))] none [(t, .inr (1, [.ref t_row_a, .ref t_count_a])), (t_row_a, .inl (cI, 1440, .inl out.1)), (t_count_a, .inl (cI, 10, .inl out.2))] := by
  refine KC.of (by decide +kernel) (Nat.le_of_ble_eq_true rfl) ?_
  intro p e s m below meth c A ls args Q hQ CX hA hK hP hD hl
  obtain ⟨hx, hb, hr, hml, hown, hts, hlocks⟩ := CX
  have hown : s.vm.findClass RX1 = some m.cls := hown
  have hS : va_S A s.heap s.heap [] := va_S.rf
  have hl : lv_has ls 3 [(0, .ref t), (1, .int x0), (2, .int x1)] := hl
  unfold M_FactSet_drop at hm
  obtain ⟨H, eH⟩ : ∃ H, H = s.heap := ⟨_, rfl⟩
  obtain ⟨locs, el⟩ : ∃ x : List Loc, x = [] := ⟨_, rfl⟩
  have hP : va_P D vwCl [(t, .inr (1, [.ref t_row_a, .ref t_count_a])), (t_row_a, .inl (cI, 1440, .inl t_row)), (t_count_a, .inl (cI, 10, .inl t_count))] H := eH ▸ hP
  have hS : va_S A s.heap H locs := by rw [eH, el]; exact hS
  suffices hW : W p l e { frames := 1, cells := 0, slots := 0, locals := 22 } s m args below meth c H locs 0 0 Q (F0 m 0 ls []) by rw [eH, el] at hW; exact hW
  clear eH el
  refine lv_aload_n hx hb dX1_drop_0 rfl (lv_at hl 0 rfl) ?_
  refine lv_iload_n hx hb dX1_drop_1 rfl (lv_at hl 1 rfl) ?_
  refine lv_iload_n hx hb dX1_drop_2 rfl (lv_at hl 2 rfl) ?_
  obtain ⟨z1, hz1, hm⟩ := bd_at hm
  refine k_callV (As := [.int x0, .int x1]) (rest := []) (wr := [(t_count_a, .inl (cI, 10, .inl t_count))]) (ws1 := [(t, .inr (1, [.ref t_row_a, .ref t_count_a])), (t_row_a, .inl (cI, 1440, .inl t_row)), (t_count_a, .inl (cI, 10, .inl t_count))]) [0, 1] [2] [1, 2, 0] (K_FactSet_has l D cB cI cZ cJ t t_row_a t_count_a t_row x0 x1 z1 hz1) mf_X1_has km_X1_18 hx hb hml hown hts hK hP hD hS hA hl.1 ⟨Nat.zero_le _, Nat.zero_le _⟩ dX1_drop_3 rfl rfl (Nat.le_of_ble_eq_true rfl) ⟨⟨rfl, rfl⟩, Nat.le_of_ble_eq_true rfl, Nat.le_of_ble_eq_true rfl⟩ rfl rfl (by decide) rfl rfl rfl rfl (fun H locs hP hD hS => ?_)
  have hP : va_P D vwCl [(t, .inr (1, [.ref t_row_a, .ref t_count_a])), (t_row_a, .inl (cI, 1440, .inl t_row)), (t_count_a, .inl (cI, 10, .inl t_count))] H := hP
  have hD : va_D A [(t, .inr (1, [.ref t_row_a, .ref t_count_a])), (t_row_a, .inl (cI, 1440, .inl t_row)), (t_count_a, .inl (cI, 10, .inl t_count))] := hD
  refine lv_if_eq (tgt := 45) hx hb dX1_drop_6 (by decide) (fun hc => ?_) (fun hc => ?_)
  · have hm := if_t hc hm
    have ho := Option.some.inj hm
    exact k_vret hx hb hr hlocks hK hP hD hS dX1_drop_45 hQ rfl (by rw [← ho])
  · have hm := if_f hc hm
    refine lv_aload_n hx hb dX1_drop_9 rfl (lv_at hl 0 rfl) ?_
    refine va_get (D := D) (ci := 1) (v := .ref t_row_a) (C := RX1) (T := TX1) (N := 2) hx hb hts in_X1 hown hK hP 0 rfl rfl 0 (by decide) (hts _ kf_X1_11) (fun _ h9 => h9) rfl dX1_drop_10 ?_
    refine lv_iload_n hx hb dX1_drop_13 rfl (lv_at hl 1 rfl) ?_
    refine lv_sipush (v := (144 : Int32)) hx hb dX1_drop_14 (by decide) ?_
    refine lv_imul hx hb dX1_drop_17 ?_
    refine lv_iload_n hx hb dX1_drop_18 rfl (lv_at hl 2 rfl) ?_
    refine lv_bipush (v := (12 : Int32)) hx hb dX1_drop_19 (by decide) ?_
    refine lv_idiv hx hb dX1_drop_21 (by decide) ?_
    refine lv_iadd hx hb dX1_drop_22 ?_
    refine lv_dup2_11 hx hb dX1_drop_23 rfl rfl ?_
    refine va_iald hx hb hK hP 1 1 rfl rfl (gd_in hm) dX1_drop_24 ?_
    have hm := gd_go hm
    refine lv_topi (fun v2 ev2 => ?_)
    have hm := lt_at ev2 hm
    refine lv_iconst (v := (1 : Int32)) hx hb dX1_drop_25 (by decide) ?_
    refine lv_iload_n hx hb dX1_drop_26 rfl (lv_at hl 2 rfl) ?_
    refine lv_bipush (v := (12 : Int32)) hx hb dX1_drop_27 (by decide) ?_
    refine lv_irem hx hb dX1_drop_29 (by decide) ?_
    refine lv_ishl hx hb dX1_drop_30 ?_
    refine lv_topi (fun v3 ev3 => ?_)
    have hm := lt_at ev3 hm
    refine lv_iconst (v := (-1 : Int32)) hx hb dX1_drop_31 (by decide) ?_
    refine lv_ixor hx hb dX1_drop_32 ?_
    refine lv_iand hx hb dX1_drop_33 ?_
    refine k_iast hx hb hK hP hD hS 1 1 rfl rfl (gd_in hm) dX1_drop_34 (fun f4 ef4 H locs hP hD hS => ?_)
    have hm := lt_at ef4 (gd_go hm)
    have hP : va_P D vwCl [(t, .inr (1, [.ref t_row_a, .ref t_count_a])), (t_row_a, .inl (cI, 1440, .inl f4)), (t_count_a, .inl (cI, 10, .inl t_count))] H := hP
    have hD : va_D A [(t, .inr (1, [.ref t_row_a, .ref t_count_a])), (t_row_a, .inl (cI, 1440, .inl f4)), (t_count_a, .inl (cI, 10, .inl t_count))] := hD
    refine lv_aload_n hx hb dX1_drop_35 rfl (lv_at hl 0 rfl) ?_
    refine va_get (D := D) (ci := 1) (v := .ref t_count_a) (C := RX1) (T := TX1) (N := 2) hx hb hts in_X1 hown hK hP 0 rfl rfl 1 (by decide) (hts _ kf_X1_15) (fun _ h9 => h9) rfl dX1_drop_36 ?_
    refine lv_iload_n hx hb dX1_drop_39 rfl (lv_at hl 1 rfl) ?_
    refine lv_dup2_11 hx hb dX1_drop_40 rfl rfl ?_
    refine va_iald hx hb hK hP 2 1 rfl rfl (gd_in hm) dX1_drop_41 ?_
    have hm := gd_go hm
    refine lv_iconst (v := (1 : Int32)) hx hb dX1_drop_42 (by decide) ?_
    refine lv_isub hx hb dX1_drop_43 ?_
    refine k_iast hx hb hK hP hD hS 2 1 rfl rfl (gd_in hm) dX1_drop_44 (fun f5 ef5 H locs hP hD hS => ?_)
    have hm := lt_at ef5 (gd_go hm)
    have hP : va_P D vwCl [(t, .inr (1, [.ref t_row_a, .ref t_count_a])), (t_row_a, .inl (cI, 1440, .inl f4)), (t_count_a, .inl (cI, 10, .inl f5))] H := hP
    have hD : va_D A [(t, .inr (1, [.ref t_row_a, .ref t_count_a])), (t_row_a, .inl (cI, 1440, .inl f4)), (t_count_a, .inl (cI, 10, .inl f5))] := hD
    have ho := Option.some.inj hm
    exact k_vret hx hb hr hlocks hK hP hD hS dX1_drop_45 hQ rfl (by rw [← ho])
noncomputable def M_FactSet_lastConstants (t_row : Nat → Int32) (x0 : Int32) (x1 : Int32) : Option ((Int32)) := if x1 < 0 then (some (0 : Int32)) else (if (144 : Int32) ≤ x1 then (some (0 : Int32)) else (gd_ ((x0 * (144 : Int32)) + x1) 1440 <| lt_ ((t_row ((x0 * (144 : Int32)) + x1).toNatClampNeg)) fun v1 => some v1))
set_option maxRecDepth 100000 in
set_option maxHeartbeats 4000000 in
theorem K_FactSet_lastConstants (l : Launch) (D : va_G) (cB cI cZ cJ : ClassId) (t : Nat) (t_row_a : Nat) (t_count_a : Nat) (t_row : Nat → Int32) (x0 : Int32) (x1 : Int32) (out : (Int32)) (hm : M_FactSet_lastConstants t_row x0 x1 = some out) : KC l yX1_lastConstants cX1_lastConstants 3 (some .int) { frames := 0, cells := 0, slots := 0, locals := 0 } D (kTy cB cI cZ cJ) [.ref t, .int x0, .int x1] [(t, .inr (1, [.ref t_row_a, .ref t_count_a])), (t_row_a, .inl (cI, 1440, .inl t_row))] (some (.int out)) [(t, .inr (1, [.ref t_row_a, .ref t_count_a])), (t_row_a, .inl (cI, 1440, .inl t_row))] := by
  refine KC.of (by decide +kernel) (Nat.le_of_ble_eq_true rfl) ?_
  intro p e s m below meth c A ls args Q hQ CX hA hK hP hD hl
  obtain ⟨hx, hb, hr, hml, hown, hts, hlocks⟩ := CX
  have hown : s.vm.findClass RX1 = some m.cls := hown
  have hS : va_S A s.heap s.heap [] := va_S.rf
  have hl : lv_has ls 3 [(0, .ref t), (1, .int x0), (2, .int x1)] := hl
  unfold M_FactSet_lastConstants at hm
  obtain ⟨H, eH⟩ : ∃ H, H = s.heap := ⟨_, rfl⟩
  obtain ⟨locs, el⟩ : ∃ x : List Loc, x = [] := ⟨_, rfl⟩
  have hP : va_P D vwCl [(t, .inr (1, [.ref t_row_a, .ref t_count_a])), (t_row_a, .inl (cI, 1440, .inl t_row))] H := eH ▸ hP
  have hS : va_S A s.heap H locs := by rw [eH, el]; exact hS
  suffices hW : W p l e { frames := 0, cells := 0, slots := 0, locals := 0 } s m args below meth c H locs 0 0 Q (F0 m 0 ls []) by rw [eH, el] at hW; exact hW
  clear eH el
  refine lv_iload_n hx hb dX1_lastConstants_0 rfl (lv_at hl 2 rfl) ?_
  refine lv_if_lt (tgt := 26) hx hb dX1_lastConstants_1 (by decide) (fun hc => ?_) (fun hc => ?_)
  · have hm := if_t hc hm
    refine lv_iconst (v := (0 : Int32)) hx hb dX1_lastConstants_26 (by decide) ?_
    have ho := Option.some.inj hm
    exact k_iret hx hb hr hlocks hK hP hD hS dX1_lastConstants_27 hQ (by rw [← ho]) rfl
  · have hm := if_f hc hm
    refine lv_iload_n hx hb dX1_lastConstants_4 rfl (lv_at hl 2 rfl) ?_
    refine lv_sipush (v := (144 : Int32)) hx hb dX1_lastConstants_5 (by decide) ?_
    refine lv_icmp_ge (tgt := 26) hx hb dX1_lastConstants_8 (by decide) (fun hc => ?_) (fun hc => ?_)
    · have hm := if_t hc hm
      refine lv_iconst (v := (0 : Int32)) hx hb dX1_lastConstants_26 (by decide) ?_
      have ho := Option.some.inj hm
      exact k_iret hx hb hr hlocks hK hP hD hS dX1_lastConstants_27 hQ (by rw [← ho]) rfl
    · have hm := if_f hc hm
      refine lv_aload_n hx hb dX1_lastConstants_11 rfl (lv_at hl 0 rfl) ?_
      refine va_get (D := D) (ci := 1) (v := .ref t_row_a) (C := RX1) (T := TX1) (N := 2) hx hb hts in_X1 hown hK hP 0 rfl rfl 0 (by decide) (hts _ kf_X1_11) (fun _ h9 => h9) rfl dX1_lastConstants_12 ?_
      refine lv_iload_n hx hb dX1_lastConstants_15 rfl (lv_at hl 1 rfl) ?_
      refine lv_sipush (v := (144 : Int32)) hx hb dX1_lastConstants_16 (by decide) ?_
      refine lv_imul hx hb dX1_lastConstants_19 ?_
      refine lv_iload_n hx hb dX1_lastConstants_20 rfl (lv_at hl 2 rfl) ?_
      refine lv_iadd hx hb dX1_lastConstants_21 ?_
      refine va_iald hx hb hK hP 1 1 rfl rfl (gd_in hm) dX1_lastConstants_22 ?_
      have hm := gd_go hm
      refine lv_topi (fun v1 ev1 => ?_)
      have hm := lt_at ev1 hm
      refine lv_goto (tgt := 27) hx hb dX1_lastConstants_23 (by decide) ?_
      have ho := Option.some.inj hm
      exact k_iret hx hb hr hlocks hK hP hD hS dX1_lastConstants_27 hQ (by rw [← ho]) rfl
noncomputable def M_FactSet_empty_L6 (F : Nat) (c_t_count : Nat → Int32) (w1 : Int32) : Nat → Int32 → (Nat → Int32) → Option ((Nat → Int32))
  | 0, _, _ => none
  | n + 1, y2, c_t_row => gd_ w1 10 <| if (c_t_count w1.toNatClampNeg) ≤ 0 then (some c_t_row) else (if ((w1 + (1 : Int32)) * (144 : Int32)) ≤ y2 then (some c_t_row) else (gd_ y2 1440 <| lt_ (upd c_t_row y2.toNatClampNeg (0 : Int32)) fun f2 => lt_ (y2 + (1 : Int32)) fun v3 => M_FactSet_empty_L6 F c_t_count w1 n v3 f2))
noncomputable def M_FactSet_empty (F : Nat) (t_row : Nat → Int32) (t_count : Nat → Int32) (x0 : Int32) : Option ((Nat → Int32) × (Nat → Int32)) := lt_ ((x0 * (144 : Int32))) fun v1 => bd_ (M_FactSet_empty_L6 F t_count x0 F v1 t_row) fun z4 => gd_ x0 10 <| lt_ (upd t_count x0.toNatClampNeg (0 : Int32)) fun f5 => some (z4, f5)
set_option maxRecDepth 100000 in
set_option maxHeartbeats 4000000 in
theorem K_FactSet_empty (l : Launch) (D : va_G) (cB cI cZ cJ : ClassId) (t : Nat) (t_row_a : Nat) (t_count_a : Nat) (t_row : Nat → Int32) (t_count : Nat → Int32) (x0 : Int32) (F : Nat) (out : (Nat → Int32) × (Nat → Int32)) (hm : M_FactSet_empty F t_row t_count x0 = some out) : KC l yX1_empty cX1_empty 3 none { frames := 0, cells := 0, slots := 0, locals := 0 } D (kTy cB cI cZ cJ) [.ref t, .int x0] [(t, .inr (1, [.ref t_row_a, .ref t_count_a])), (t_row_a, .inl (cI, 1440, .inl t_row)), (t_count_a, .inl (cI, 10, .inl t_count))] none [(t, .inr (1, [.ref t_row_a, .ref t_count_a])), (t_row_a, .inl (cI, 1440, .inl out.1)), (t_count_a, .inl (cI, 10, .inl out.2))] := by
  refine KC.of (by decide +kernel) (Nat.le_of_ble_eq_true rfl) ?_
  intro p e s m below meth c A ls args Q hQ CX hA hK hP hD hl
  obtain ⟨hx, hb, hr, hml, hown, hts, hlocks⟩ := CX
  have hown : s.vm.findClass RX1 = some m.cls := hown
  have hS : va_S A s.heap s.heap [] := va_S.rf
  have hl : lv_has ls 3 [(0, .ref t), (1, .int x0)] := hl
  have L6 : ∀ (c_t_count : Nat → Int32) (w1 : Int32) (n : Nat) (y2 : Int32) (c_t_row : Nat → Int32) (z : ((Nat → Int32))), M_FactSet_empty_L6 F c_t_count w1 n y2 c_t_row = some z →
      (∀ (H : Heap) (locs : List Loc) (ls : Array Slot), va_P D vwCl [(t, .inr (1, [.ref t_row_a, .ref t_count_a])), (t_row_a, .inl (cI, 1440, .inl z)), (t_count_a, .inl (cI, 10, .inl c_t_count))] H → va_D A [(t, .inr (1, [.ref t_row_a, .ref t_count_a])), (t_row_a, .inl (cI, 1440, .inl z)), (t_count_a, .inl (cI, 10, .inl c_t_count))] → va_S A s.heap H locs → lv_has ls 3 [(0, .ref t), (1, .int w1)] → W p l e { frames := 0, cells := 0, slots := 0, locals := 0 } s m args below meth c H locs 0 0 Q (F0 m 39 ls [])) →
      ∀ (H : Heap) (locs : List Loc) (ls : Array Slot), va_P D vwCl [(t, .inr (1, [.ref t_row_a, .ref t_count_a])), (t_row_a, .inl (cI, 1440, .inl c_t_row)), (t_count_a, .inl (cI, 10, .inl c_t_count))] H → va_D A [(t, .inr (1, [.ref t_row_a, .ref t_count_a])), (t_row_a, .inl (cI, 1440, .inl c_t_row)), (t_count_a, .inl (cI, 10, .inl c_t_count))] → va_S A s.heap H locs → lv_has ls 3 [(2, .int y2), (0, .ref t), (1, .int w1)] → W p l e { frames := 0, cells := 0, slots := 0, locals := 0 } s m args below meth c H locs 0 0 Q (F0 m 6 ls []) := by
    intro c_t_count w1 n
    induction n with
    | zero => intro y2 c_t_row z hm; unfold M_FactSet_empty_L6 at hm; cases hm
    | succ n ih =>
      intro y2 c_t_row z hm hE H locs ls hP hD hS hl
      unfold M_FactSet_empty_L6 at hm
      refine lv_aload_n hx hb dX1_empty_6 rfl (lv_at hl 1 rfl) ?_
      refine va_get (D := D) (ci := 1) (v := .ref t_count_a) (C := RX1) (T := TX1) (N := 2) hx hb hts in_X1 hown hK hP 0 rfl rfl 1 (by decide) (hts _ kf_X1_15) (fun _ h9 => h9) rfl dX1_empty_7 ?_
      refine lv_iload_n hx hb dX1_empty_10 rfl (lv_at hl 2 rfl) ?_
      refine va_iald hx hb hK hP 2 1 rfl rfl (gd_in hm) dX1_empty_11 ?_
      have hm := gd_go hm
      refine lv_if_le (tgt := 39) hx hb dX1_empty_12 (by decide) (fun hc => ?_) (fun hc => ?_)
      · have hm := if_t hc hm
        cases hm
        exact hE H locs ls hP hD hS (lv_sub hl [1, 2] rfl)
      · have hm := if_f hc hm
        refine lv_iload_n hx hb dX1_empty_15 rfl (lv_at hl 0 rfl) ?_
        refine lv_iload_n hx hb dX1_empty_16 rfl (lv_at hl 2 rfl) ?_
        refine lv_iconst (v := (1 : Int32)) hx hb dX1_empty_17 (by decide) ?_
        refine lv_iadd hx hb dX1_empty_18 ?_
        refine lv_sipush (v := (144 : Int32)) hx hb dX1_empty_19 (by decide) ?_
        refine lv_imul hx hb dX1_empty_22 ?_
        refine lv_icmp_ge (tgt := 39) hx hb dX1_empty_23 (by decide) (fun hc => ?_) (fun hc => ?_)
        · have hm := if_t hc hm
          cases hm
          exact hE H locs ls hP hD hS (lv_sub hl [1, 2] rfl)
        · have hm := if_f hc hm
          refine lv_aload_n hx hb dX1_empty_26 rfl (lv_at hl 1 rfl) ?_
          refine va_get (D := D) (ci := 1) (v := .ref t_row_a) (C := RX1) (T := TX1) (N := 2) hx hb hts in_X1 hown hK hP 0 rfl rfl 0 (by decide) (hts _ kf_X1_11) (fun _ h9 => h9) rfl dX1_empty_27 ?_
          refine lv_iload_n hx hb dX1_empty_30 rfl (lv_at hl 0 rfl) ?_
          refine lv_iconst (v := (0 : Int32)) hx hb dX1_empty_31 (by decide) ?_
          refine k_iast hx hb hK hP hD hS 1 1 rfl rfl (gd_in hm) dX1_empty_32 (fun f2 ef2 H locs hP hD hS => ?_)
          have hm := lt_at ef2 (gd_go hm)
          have hP : va_P D vwCl [(t, .inr (1, [.ref t_row_a, .ref t_count_a])), (t_row_a, .inl (cI, 1440, .inl f2)), (t_count_a, .inl (cI, 10, .inl c_t_count))] H := hP
          have hD : va_D A [(t, .inr (1, [.ref t_row_a, .ref t_count_a])), (t_row_a, .inl (cI, 1440, .inl f2)), (t_count_a, .inl (cI, 10, .inl c_t_count))] := hD
          obtain ⟨v3, ev3⟩ : ∃ y : Int32, y = y2 + (1 : Int32) := ⟨_, rfl⟩
          have hm := lt_at ev3 hm
          refine lv_iinc (v := v3) (lv' := [(2, .int v3), (0, .ref t), (1, .int w1)]) hx hb dX1_empty_33 hl (k := 0) rfl (by rw [ev3]; rfl) (by decide) rfl (fun ls hl => ?_)
          refine lv_goto (tgt := 6) hx hb dX1_empty_36 (by decide) ?_
          exact ih v3 f2 z hm hE H locs ls hP hD hS (lv_sub hl [0, 1, 2] rfl)
  unfold M_FactSet_empty at hm
  obtain ⟨H, eH⟩ : ∃ H, H = s.heap := ⟨_, rfl⟩
  obtain ⟨locs, el⟩ : ∃ x : List Loc, x = [] := ⟨_, rfl⟩
  have hP : va_P D vwCl [(t, .inr (1, [.ref t_row_a, .ref t_count_a])), (t_row_a, .inl (cI, 1440, .inl t_row)), (t_count_a, .inl (cI, 10, .inl t_count))] H := eH ▸ hP
  have hS : va_S A s.heap H locs := by rw [eH, el]; exact hS
  suffices hW : W p l e { frames := 0, cells := 0, slots := 0, locals := 0 } s m args below meth c H locs 0 0 Q (F0 m 0 ls []) by rw [eH, el] at hW; exact hW
  clear eH el
  refine lv_iload_n hx hb dX1_empty_0 rfl (lv_at hl 1 rfl) ?_
  refine lv_sipush (v := (144 : Int32)) hx hb dX1_empty_1 (by decide) ?_
  refine lv_imul hx hb dX1_empty_4 ?_
  refine lv_topi (fun v1 ev1 => ?_)
  have hm := lt_at ev1 hm
  refine lv_istore_n (lv' := [(2, .int v1), (0, .ref t), (1, .int x0)]) hx hb dX1_empty_5 rfl hl (by decide) rfl (fun ls hl => ?_)
  obtain ⟨z4, hz4, hm⟩ := bd_at hm
  refine L6 t_count x0 F v1 t_row z4 hz4 (fun H locs ls hP hD hS hl => ?_) H locs ls hP hD hS (lv_sub hl [0, 1, 2] rfl)
  refine lv_aload_n hx hb dX1_empty_39 rfl (lv_at hl 0 rfl) ?_
  refine va_get (D := D) (ci := 1) (v := .ref t_count_a) (C := RX1) (T := TX1) (N := 2) hx hb hts in_X1 hown hK hP 0 rfl rfl 1 (by decide) (hts _ kf_X1_15) (fun _ h9 => h9) rfl dX1_empty_40 ?_
  refine lv_iload_n hx hb dX1_empty_43 rfl (lv_at hl 1 rfl) ?_
  refine lv_iconst (v := (0 : Int32)) hx hb dX1_empty_44 (by decide) ?_
  refine k_iast hx hb hK hP hD hS 2 1 rfl rfl (gd_in hm) dX1_empty_45 (fun f5 ef5 H locs hP hD hS => ?_)
  have hm := lt_at ef5 (gd_go hm)
  have hP : va_P D vwCl [(t, .inr (1, [.ref t_row_a, .ref t_count_a])), (t_row_a, .inl (cI, 1440, .inl z4)), (t_count_a, .inl (cI, 10, .inl f5))] H := hP
  have hD : va_D A [(t, .inr (1, [.ref t_row_a, .ref t_count_a])), (t_row_a, .inl (cI, 1440, .inl z4)), (t_count_a, .inl (cI, 10, .inl f5))] := hD
  have ho := Option.some.inj hm
  exact k_vret hx hb hr hlocks hK hP hD hS dX1_empty_46 hQ rfl (by rw [← ho])
noncomputable def M_FactSet_clear_L2 (F : Nat) : Nat → Int32 → (Nat → Int32) → (Nat → Int32) → Option ((Nat → Int32) × (Nat → Int32))
  | 0, _, _, _ => none
  | n + 1, y1, c_t_row, c_t_count => if (10 : Int32) ≤ y1 then (some (c_t_row, c_t_count)) else (bd_ (M_FactSet_empty F c_t_row c_t_count y1) fun z1 => lt_ (y1 + (1 : Int32)) fun v2 => M_FactSet_clear_L2 F n v2 z1.1 z1.2)
noncomputable def M_FactSet_clear (F : Nat) (t_row : Nat → Int32) (t_count : Nat → Int32) : Option ((Nat → Int32) × (Nat → Int32)) := bd_ (M_FactSet_clear_L2 F F (0 : Int32) t_row t_count) fun z3 => some (z3.1, z3.2)
set_option maxRecDepth 100000 in
set_option maxHeartbeats 4000000 in
theorem K_FactSet_clear (l : Launch) (D : va_G) (cB cI cZ cJ : ClassId) (t : Nat) (t_row_a : Nat) (t_count_a : Nat) (t_row : Nat → Int32) (t_count : Nat → Int32) (F : Nat) (out : (Nat → Int32) × (Nat → Int32)) (hm : M_FactSet_clear F t_row t_count = some out) : KC l yX1_clear cX1_clear 2 none { frames := 1, cells := 0, slots := 0, locals := 22 } D (kTy cB cI cZ cJ) [.ref t] [(t, .inr (1, [.ref t_row_a, .ref t_count_a])), (t_row_a, .inl (cI, 1440, .inl t_row)), (t_count_a, .inl (cI, 10, .inl t_count))] none [(t, .inr (1, [.ref t_row_a, .ref t_count_a])), (t_row_a, .inl (cI, 1440, .inl out.1)), (t_count_a, .inl (cI, 10, .inl out.2))] := by
  refine KC.of (by decide +kernel) (Nat.le_of_ble_eq_true rfl) ?_
  intro p e s m below meth c A ls args Q hQ CX hA hK hP hD hl
  obtain ⟨hx, hb, hr, hml, hown, hts, hlocks⟩ := CX
  have hown : s.vm.findClass RX1 = some m.cls := hown
  have hS : va_S A s.heap s.heap [] := va_S.rf
  have hl : lv_has ls 2 [(0, .ref t)] := hl
  have L2 : ∀ (n : Nat) (y1 : Int32) (c_t_row : Nat → Int32) (c_t_count : Nat → Int32) (z : ((Nat → Int32) × (Nat → Int32))), M_FactSet_clear_L2 F n y1 c_t_row c_t_count = some z →
      (∀ (H : Heap) (locs : List Loc) (ls : Array Slot), va_P D vwCl [(t, .inr (1, [.ref t_row_a, .ref t_count_a])), (t_row_a, .inl (cI, 1440, .inl z.1)), (t_count_a, .inl (cI, 10, .inl z.2))] H → va_D A [(t, .inr (1, [.ref t_row_a, .ref t_count_a])), (t_row_a, .inl (cI, 1440, .inl z.1)), (t_count_a, .inl (cI, 10, .inl z.2))] → va_S A s.heap H locs → lv_has ls 2 [] → W p l e { frames := 1, cells := 0, slots := 0, locals := 22 } s m args below meth c H locs 0 0 Q (F0 m 19 ls [])) →
      ∀ (H : Heap) (locs : List Loc) (ls : Array Slot), va_P D vwCl [(t, .inr (1, [.ref t_row_a, .ref t_count_a])), (t_row_a, .inl (cI, 1440, .inl c_t_row)), (t_count_a, .inl (cI, 10, .inl c_t_count))] H → va_D A [(t, .inr (1, [.ref t_row_a, .ref t_count_a])), (t_row_a, .inl (cI, 1440, .inl c_t_row)), (t_count_a, .inl (cI, 10, .inl c_t_count))] → va_S A s.heap H locs → lv_has ls 2 [(1, .int y1), (0, .ref t)] → W p l e { frames := 1, cells := 0, slots := 0, locals := 22 } s m args below meth c H locs 0 0 Q (F0 m 2 ls []) := by
    intro  n
    induction n with
    | zero => intro y1 c_t_row c_t_count z hm; unfold M_FactSet_clear_L2 at hm; cases hm
    | succ n ih =>
      intro y1 c_t_row c_t_count z hm hE H locs ls hP hD hS hl
      unfold M_FactSet_clear_L2 at hm
      refine lv_iload_n hx hb dX1_clear_2 rfl (lv_at hl 0 rfl) ?_
      refine lv_bipush (v := (10 : Int32)) hx hb dX1_clear_3 (by decide) ?_
      refine lv_icmp_ge (tgt := 19) hx hb dX1_clear_5 (by decide) (fun hc => ?_) (fun hc => ?_)
      · have hm := if_t hc hm
        cases hm
        exact hE H locs ls hP hD hS (lv_sub hl [] rfl)
      · have hm := if_f hc hm
        refine lv_aload_n hx hb dX1_clear_8 rfl (lv_at hl 1 rfl) ?_
        refine lv_iload_n hx hb dX1_clear_9 rfl (lv_at hl 0 rfl) ?_
        obtain ⟨z1, hz1, hm⟩ := bd_at hm
        refine k_callV (As := [.int y1]) (rest := []) (wr := []) (ws1 := [(t, .inr (1, [.ref t_row_a, .ref t_count_a])), (t_row_a, .inl (cI, 1440, .inl z1.1)), (t_count_a, .inl (cI, 10, .inl z1.2))]) [0, 1, 2] [] [0, 1, 2] (K_FactSet_empty l D cB cI cZ cJ t t_row_a t_count_a c_t_row c_t_count y1 F z1 hz1) mf_X1_empty km_X1_22 hx hb hml hown hts hK hP hD hS hA hl.1 ⟨Nat.zero_le _, Nat.zero_le _⟩ dX1_clear_10 rfl rfl (Nat.le_of_ble_eq_true rfl) ⟨⟨rfl, rfl⟩, Nat.le_of_ble_eq_true rfl, Nat.le_of_ble_eq_true rfl⟩ rfl rfl (by decide) rfl rfl rfl rfl (fun H locs hP hD hS => ?_)
        have hP : va_P D vwCl [(t, .inr (1, [.ref t_row_a, .ref t_count_a])), (t_row_a, .inl (cI, 1440, .inl z1.1)), (t_count_a, .inl (cI, 10, .inl z1.2))] H := hP
        have hD : va_D A [(t, .inr (1, [.ref t_row_a, .ref t_count_a])), (t_row_a, .inl (cI, 1440, .inl z1.1)), (t_count_a, .inl (cI, 10, .inl z1.2))] := hD
        obtain ⟨v2, ev2⟩ : ∃ y : Int32, y = y1 + (1 : Int32) := ⟨_, rfl⟩
        have hm := lt_at ev2 hm
        refine lv_iinc (v := v2) (lv' := [(1, .int v2), (0, .ref t)]) hx hb dX1_clear_13 hl (k := 0) rfl (by rw [ev2]; rfl) (by decide) rfl (fun ls hl => ?_)
        refine lv_goto (tgt := 2) hx hb dX1_clear_16 (by decide) ?_
        exact ih v2 z1.1 z1.2 z hm hE H locs ls hP hD hS (lv_sub hl [0, 1] rfl)
  unfold M_FactSet_clear at hm
  obtain ⟨H, eH⟩ : ∃ H, H = s.heap := ⟨_, rfl⟩
  obtain ⟨locs, el⟩ : ∃ x : List Loc, x = [] := ⟨_, rfl⟩
  have hP : va_P D vwCl [(t, .inr (1, [.ref t_row_a, .ref t_count_a])), (t_row_a, .inl (cI, 1440, .inl t_row)), (t_count_a, .inl (cI, 10, .inl t_count))] H := eH ▸ hP
  have hS : va_S A s.heap H locs := by rw [eH, el]; exact hS
  suffices hW : W p l e { frames := 1, cells := 0, slots := 0, locals := 22 } s m args below meth c H locs 0 0 Q (F0 m 0 ls []) by rw [eH, el] at hW; exact hW
  clear eH el
  refine lv_iconst (v := (0 : Int32)) hx hb dX1_clear_0 (by decide) ?_
  refine lv_istore_n (lv' := [(1, .int (0 : Int32)), (0, .ref t)]) hx hb dX1_clear_1 rfl hl (by decide) rfl (fun ls hl => ?_)
  obtain ⟨z3, hz3, hm⟩ := bd_at hm
  refine L2  F (0 : Int32) t_row t_count z3 hz3 (fun H locs ls hP hD hS hl => ?_) H locs ls hP hD hS (lv_sub hl [0, 1] rfl)
  have ho := Option.some.inj hm
  exact k_vret hx hb hr hlocks hK hP hD hS dX1_clear_19 hQ rfl (by rw [← ho])
noncomputable def M_FactSet_copyAll (t_row : Nat → Int32) (t_count : Nat → Int32) (o_row : Nat → Int32) (o_count : Nat → Int32) : Option ((Nat → Int32) × (Nat → Int32)) := gp_ (¬ (0 : Int32) < 0 ∧ ¬ (0 : Int32) < 0 ∧ ¬ (1440 : Int32) < 0 ∧ (0 : Int32).toNatClampNeg + (1440 : Int32).toNatClampNeg ≤ 1440 ∧ (0 : Int32).toNatClampNeg + (1440 : Int32).toNatClampNeg ≤ 1440) <| lt_ (va_cpy o_row t_row (0 : Int32).toNatClampNeg (0 : Int32).toNatClampNeg (1440 : Int32).toNatClampNeg) fun f1 => gp_ (¬ (0 : Int32) < 0 ∧ ¬ (0 : Int32) < 0 ∧ ¬ (10 : Int32) < 0 ∧ (0 : Int32).toNatClampNeg + (10 : Int32).toNatClampNeg ≤ 10 ∧ (0 : Int32).toNatClampNeg + (10 : Int32).toNatClampNeg ≤ 10) <| lt_ (va_cpy o_count t_count (0 : Int32).toNatClampNeg (0 : Int32).toNatClampNeg (10 : Int32).toNatClampNeg) fun f2 => some (f1, f2)
set_option maxRecDepth 100000 in
set_option maxHeartbeats 4000000 in
theorem K_FactSet_copyAll (l : Launch) (D : va_G) (cB cI cZ cJ : ClassId) (t : Nat) (t_row_a : Nat) (t_count_a : Nat) (o : Nat) (o_row_a : Nat) (o_count_a : Nat) (t_row : Nat → Int32) (t_count : Nat → Int32) (o_row : Nat → Int32) (o_count : Nat → Int32) (out : (Nat → Int32) × (Nat → Int32)) (hm : M_FactSet_copyAll t_row t_count o_row o_count = some out) : KC l yX1_copyAll cX1_copyAll 2 none { frames := 1, cells := 0, slots := 0, locals := 60 } D (kTy cB cI cZ cJ) [.ref t, .ref o] [(t, .inr (1, [.ref t_row_a, .ref t_count_a])), (t_row_a, .inl (cI, 1440, .inl t_row)), (t_count_a, .inl (cI, 10, .inl t_count)), (o, .inr (1, [.ref o_row_a, .ref o_count_a])), (o_row_a, .inl (cI, 1440, .inl o_row)), (o_count_a, .inl (cI, 10, .inl o_count))] none [(t, .inr (1, [.ref t_row_a, .ref t_count_a])), (t_row_a, .inl (cI, 1440, .inl out.1)), (t_count_a, .inl (cI, 10, .inl out.2)), (o, .inr (1, [.ref o_row_a, .ref o_count_a])), (o_row_a, .inl (cI, 1440, .inl o_row)), (o_count_a, .inl (cI, 10, .inl o_count))] := by
  refine KC.of (by decide +kernel) (Nat.le_of_ble_eq_true rfl) ?_
  intro p e s m below meth c A ls args Q hQ CX hA hK hP hD hl
  obtain ⟨hx, hb, hr, hml, hown, hts, hlocks⟩ := CX
  have hown : s.vm.findClass RX1 = some m.cls := hown
  have hS : va_S A s.heap s.heap [] := va_S.rf
  have hl : lv_has ls 2 [(0, .ref t), (1, .ref o)] := hl
  unfold M_FactSet_copyAll at hm
  obtain ⟨H, eH⟩ : ∃ H, H = s.heap := ⟨_, rfl⟩
  obtain ⟨locs, el⟩ : ∃ x : List Loc, x = [] := ⟨_, rfl⟩
  have hP : va_P D vwCl [(t, .inr (1, [.ref t_row_a, .ref t_count_a])), (t_row_a, .inl (cI, 1440, .inl t_row)), (t_count_a, .inl (cI, 10, .inl t_count)), (o, .inr (1, [.ref o_row_a, .ref o_count_a])), (o_row_a, .inl (cI, 1440, .inl o_row)), (o_count_a, .inl (cI, 10, .inl o_count))] H := eH ▸ hP
  have hS : va_S A s.heap H locs := by rw [eH, el]; exact hS
  suffices hW : W p l e { frames := 1, cells := 0, slots := 0, locals := 60 } s m args below meth c H locs 0 0 Q (F0 m 0 ls []) by rw [eH, el] at hW; exact hW
  clear eH el
  refine lv_aload_n hx hb dX1_copyAll_0 rfl (lv_at hl 1 rfl) ?_
  refine va_get (D := D) (ci := 1) (v := .ref o_row_a) (C := RX1) (T := TX1) (N := 2) hx hb hts in_X1 hown hK hP 3 rfl rfl 0 (by decide) (hts _ kf_X1_11) (fun _ h9 => h9) rfl dX1_copyAll_1 ?_
  refine lv_iconst (v := (0 : Int32)) hx hb dX1_copyAll_4 (by decide) ?_
  refine lv_aload_n hx hb dX1_copyAll_5 rfl (lv_at hl 0 rfl) ?_
  refine va_get (D := D) (ci := 1) (v := .ref t_row_a) (C := RX1) (T := TX1) (N := 2) hx hb hts in_X1 hown hK hP 0 rfl rfl 0 (by decide) (hts _ kf_X1_11) (fun _ h9 => h9) rfl dX1_copyAll_6 ?_
  refine lv_iconst (v := (0 : Int32)) hx hb dX1_copyAll_9 (by decide) ?_
  refine lv_aload_n hx hb dX1_copyAll_10 rfl (lv_at hl 0 rfl) ?_
  refine va_get (D := D) (ci := 1) (v := .ref t_row_a) (C := RX1) (T := TX1) (N := 2) hx hb hts in_X1 hown hK hP 0 rfl rfl 0 (by decide) (hts _ kf_X1_11) (fun _ h9 => h9) rfl dX1_copyAll_11 ?_
  refine va_alen (v := (1440 : Int32)) hx hb hK hP 1 1 rfl rfl rfl dX1_copyAll_14 ?_
  obtain ⟨hg1, hg2, hg3, hg4, hg5⟩ := gp_in hm
  refine k_copy hx hb (hml.trans hl.1.symm) hown (hts _ km_X1_26) hts hK hP hD hS 4 1 1 rfl rfl rfl hg1 hg2 hg3 hg4 hg5 (Nat.le_of_ble_eq_true rfl) (Nat.le_of_ble_eq_true rfl) dX1_copyAll_15 (fun f1 ef1 H locs hP hD hS => ?_)
  have hm := lt_at ef1 (gp_go hm)
  have hP : va_P D vwCl [(t, .inr (1, [.ref t_row_a, .ref t_count_a])), (t_row_a, .inl (cI, 1440, .inl f1)), (t_count_a, .inl (cI, 10, .inl t_count)), (o, .inr (1, [.ref o_row_a, .ref o_count_a])), (o_row_a, .inl (cI, 1440, .inl o_row)), (o_count_a, .inl (cI, 10, .inl o_count))] H := hP
  have hD : va_D A [(t, .inr (1, [.ref t_row_a, .ref t_count_a])), (t_row_a, .inl (cI, 1440, .inl f1)), (t_count_a, .inl (cI, 10, .inl t_count)), (o, .inr (1, [.ref o_row_a, .ref o_count_a])), (o_row_a, .inl (cI, 1440, .inl o_row)), (o_count_a, .inl (cI, 10, .inl o_count))] := hD
  refine lv_aload_n hx hb dX1_copyAll_18 rfl (lv_at hl 1 rfl) ?_
  refine va_get (D := D) (ci := 1) (v := .ref o_count_a) (C := RX1) (T := TX1) (N := 2) hx hb hts in_X1 hown hK hP 3 rfl rfl 1 (by decide) (hts _ kf_X1_15) (fun _ h9 => h9) rfl dX1_copyAll_19 ?_
  refine lv_iconst (v := (0 : Int32)) hx hb dX1_copyAll_22 (by decide) ?_
  refine lv_aload_n hx hb dX1_copyAll_23 rfl (lv_at hl 0 rfl) ?_
  refine va_get (D := D) (ci := 1) (v := .ref t_count_a) (C := RX1) (T := TX1) (N := 2) hx hb hts in_X1 hown hK hP 0 rfl rfl 1 (by decide) (hts _ kf_X1_15) (fun _ h9 => h9) rfl dX1_copyAll_24 ?_
  refine lv_iconst (v := (0 : Int32)) hx hb dX1_copyAll_27 (by decide) ?_
  refine lv_aload_n hx hb dX1_copyAll_28 rfl (lv_at hl 0 rfl) ?_
  refine va_get (D := D) (ci := 1) (v := .ref t_count_a) (C := RX1) (T := TX1) (N := 2) hx hb hts in_X1 hown hK hP 0 rfl rfl 1 (by decide) (hts _ kf_X1_15) (fun _ h9 => h9) rfl dX1_copyAll_29 ?_
  refine va_alen (v := (10 : Int32)) hx hb hK hP 2 1 rfl rfl rfl dX1_copyAll_32 ?_
  obtain ⟨hg1, hg2, hg3, hg4, hg5⟩ := gp_in hm
  refine k_copy hx hb (hml.trans hl.1.symm) hown (hts _ km_X1_26) hts hK hP hD hS 5 2 1 rfl rfl rfl hg1 hg2 hg3 hg4 hg5 (Nat.le_of_ble_eq_true rfl) (Nat.le_of_ble_eq_true rfl) dX1_copyAll_33 (fun f2 ef2 H locs hP hD hS => ?_)
  have hm := lt_at ef2 (gp_go hm)
  have hP : va_P D vwCl [(t, .inr (1, [.ref t_row_a, .ref t_count_a])), (t_row_a, .inl (cI, 1440, .inl f1)), (t_count_a, .inl (cI, 10, .inl f2)), (o, .inr (1, [.ref o_row_a, .ref o_count_a])), (o_row_a, .inl (cI, 1440, .inl o_row)), (o_count_a, .inl (cI, 10, .inl o_count))] H := hP
  have hD : va_D A [(t, .inr (1, [.ref t_row_a, .ref t_count_a])), (t_row_a, .inl (cI, 1440, .inl f1)), (t_count_a, .inl (cI, 10, .inl f2)), (o, .inr (1, [.ref o_row_a, .ref o_count_a])), (o_row_a, .inl (cI, 1440, .inl o_row)), (o_count_a, .inl (cI, 10, .inl o_count))] := hD
  have ho := Option.some.inj hm
  exact k_vret hx hb hr hlocks hK hP hD hS dX1_copyAll_36 hQ rfl (by rw [← ho])
noncomputable def M_FactSet_copyOne (t_row : Nat → Int32) (t_count : Nat → Int32) (o_row : Nat → Int32) (o_count : Nat → Int32) (x1 : Int32) : Option ((Nat → Int32) × (Nat → Int32)) := gp_ (¬ (x1 * (144 : Int32)) < 0 ∧ ¬ (x1 * (144 : Int32)) < 0 ∧ ¬ (144 : Int32) < 0 ∧ (x1 * (144 : Int32)).toNatClampNeg + (144 : Int32).toNatClampNeg ≤ 1440 ∧ (x1 * (144 : Int32)).toNatClampNeg + (144 : Int32).toNatClampNeg ≤ 1440) <| lt_ (va_cpy o_row t_row (x1 * (144 : Int32)).toNatClampNeg (x1 * (144 : Int32)).toNatClampNeg (144 : Int32).toNatClampNeg) fun f1 => gd_ x1 10 <| gd_ x1 10 <| lt_ (upd t_count x1.toNatClampNeg (o_count x1.toNatClampNeg)) fun f2 => some (f1, f2)
set_option maxRecDepth 100000 in
set_option maxHeartbeats 4000000 in
theorem K_FactSet_copyOne (l : Launch) (D : va_G) (cB cI cZ cJ : ClassId) (t : Nat) (t_row_a : Nat) (t_count_a : Nat) (o : Nat) (o_row_a : Nat) (o_count_a : Nat) (t_row : Nat → Int32) (t_count : Nat → Int32) (o_row : Nat → Int32) (o_count : Nat → Int32) (x1 : Int32) (out : (Nat → Int32) × (Nat → Int32)) (hm : M_FactSet_copyOne t_row t_count o_row o_count x1 = some out) : KC l yX1_copyOne cX1_copyOne 3 none { frames := 1, cells := 0, slots := 0, locals := 60 } D (kTy cB cI cZ cJ) [.ref t, .ref o, .int x1] [(t, .inr (1, [.ref t_row_a, .ref t_count_a])), (t_row_a, .inl (cI, 1440, .inl t_row)), (t_count_a, .inl (cI, 10, .inl t_count)), (o, .inr (1, [.ref o_row_a, .ref o_count_a])), (o_row_a, .inl (cI, 1440, .inl o_row)), (o_count_a, .inl (cI, 10, .inl o_count))] none [(t, .inr (1, [.ref t_row_a, .ref t_count_a])), (t_row_a, .inl (cI, 1440, .inl out.1)), (t_count_a, .inl (cI, 10, .inl out.2)), (o, .inr (1, [.ref o_row_a, .ref o_count_a])), (o_row_a, .inl (cI, 1440, .inl o_row)), (o_count_a, .inl (cI, 10, .inl o_count))] := by
  refine KC.of (by decide +kernel) (Nat.le_of_ble_eq_true rfl) ?_
  intro p e s m below meth c A ls args Q hQ CX hA hK hP hD hl
  obtain ⟨hx, hb, hr, hml, hown, hts, hlocks⟩ := CX
  have hown : s.vm.findClass RX1 = some m.cls := hown
  have hS : va_S A s.heap s.heap [] := va_S.rf
  have hl : lv_has ls 3 [(0, .ref t), (1, .ref o), (2, .int x1)] := hl
  unfold M_FactSet_copyOne at hm
  obtain ⟨H, eH⟩ : ∃ H, H = s.heap := ⟨_, rfl⟩
  obtain ⟨locs, el⟩ : ∃ x : List Loc, x = [] := ⟨_, rfl⟩
  have hP : va_P D vwCl [(t, .inr (1, [.ref t_row_a, .ref t_count_a])), (t_row_a, .inl (cI, 1440, .inl t_row)), (t_count_a, .inl (cI, 10, .inl t_count)), (o, .inr (1, [.ref o_row_a, .ref o_count_a])), (o_row_a, .inl (cI, 1440, .inl o_row)), (o_count_a, .inl (cI, 10, .inl o_count))] H := eH ▸ hP
  have hS : va_S A s.heap H locs := by rw [eH, el]; exact hS
  suffices hW : W p l e { frames := 1, cells := 0, slots := 0, locals := 60 } s m args below meth c H locs 0 0 Q (F0 m 0 ls []) by rw [eH, el] at hW; exact hW
  clear eH el
  refine lv_aload_n hx hb dX1_copyOne_0 rfl (lv_at hl 1 rfl) ?_
  refine va_get (D := D) (ci := 1) (v := .ref o_row_a) (C := RX1) (T := TX1) (N := 2) hx hb hts in_X1 hown hK hP 3 rfl rfl 0 (by decide) (hts _ kf_X1_11) (fun _ h9 => h9) rfl dX1_copyOne_1 ?_
  refine lv_iload_n hx hb dX1_copyOne_4 rfl (lv_at hl 2 rfl) ?_
  refine lv_sipush (v := (144 : Int32)) hx hb dX1_copyOne_5 (by decide) ?_
  refine lv_imul hx hb dX1_copyOne_8 ?_
  refine lv_aload_n hx hb dX1_copyOne_9 rfl (lv_at hl 0 rfl) ?_
  refine va_get (D := D) (ci := 1) (v := .ref t_row_a) (C := RX1) (T := TX1) (N := 2) hx hb hts in_X1 hown hK hP 0 rfl rfl 0 (by decide) (hts _ kf_X1_11) (fun _ h9 => h9) rfl dX1_copyOne_10 ?_
  refine lv_iload_n hx hb dX1_copyOne_13 rfl (lv_at hl 2 rfl) ?_
  refine lv_sipush (v := (144 : Int32)) hx hb dX1_copyOne_14 (by decide) ?_
  refine lv_imul hx hb dX1_copyOne_17 ?_
  refine lv_sipush (v := (144 : Int32)) hx hb dX1_copyOne_18 (by decide) ?_
  obtain ⟨hg1, hg2, hg3, hg4, hg5⟩ := gp_in hm
  refine k_copy hx hb (hml.trans hl.1.symm) hown (hts _ km_X1_26) hts hK hP hD hS 4 1 1 rfl rfl rfl hg1 hg2 hg3 hg4 hg5 (Nat.le_of_ble_eq_true rfl) (Nat.le_of_ble_eq_true rfl) dX1_copyOne_21 (fun f1 ef1 H locs hP hD hS => ?_)
  have hm := lt_at ef1 (gp_go hm)
  have hP : va_P D vwCl [(t, .inr (1, [.ref t_row_a, .ref t_count_a])), (t_row_a, .inl (cI, 1440, .inl f1)), (t_count_a, .inl (cI, 10, .inl t_count)), (o, .inr (1, [.ref o_row_a, .ref o_count_a])), (o_row_a, .inl (cI, 1440, .inl o_row)), (o_count_a, .inl (cI, 10, .inl o_count))] H := hP
  have hD : va_D A [(t, .inr (1, [.ref t_row_a, .ref t_count_a])), (t_row_a, .inl (cI, 1440, .inl f1)), (t_count_a, .inl (cI, 10, .inl t_count)), (o, .inr (1, [.ref o_row_a, .ref o_count_a])), (o_row_a, .inl (cI, 1440, .inl o_row)), (o_count_a, .inl (cI, 10, .inl o_count))] := hD
  refine lv_aload_n hx hb dX1_copyOne_24 rfl (lv_at hl 0 rfl) ?_
  refine va_get (D := D) (ci := 1) (v := .ref t_count_a) (C := RX1) (T := TX1) (N := 2) hx hb hts in_X1 hown hK hP 0 rfl rfl 1 (by decide) (hts _ kf_X1_15) (fun _ h9 => h9) rfl dX1_copyOne_25 ?_
  refine lv_iload_n hx hb dX1_copyOne_28 rfl (lv_at hl 2 rfl) ?_
  refine lv_aload_n hx hb dX1_copyOne_29 rfl (lv_at hl 1 rfl) ?_
  refine va_get (D := D) (ci := 1) (v := .ref o_count_a) (C := RX1) (T := TX1) (N := 2) hx hb hts in_X1 hown hK hP 3 rfl rfl 1 (by decide) (hts _ kf_X1_15) (fun _ h9 => h9) rfl dX1_copyOne_30 ?_
  refine lv_iload_n hx hb dX1_copyOne_33 rfl (lv_at hl 2 rfl) ?_
  refine va_iald hx hb hK hP 5 1 rfl rfl (gd_in hm) dX1_copyOne_34 ?_
  have hm := gd_go hm
  refine k_iast hx hb hK hP hD hS 2 1 rfl rfl (gd_in hm) dX1_copyOne_35 (fun f2 ef2 H locs hP hD hS => ?_)
  have hm := lt_at ef2 (gd_go hm)
  have hP : va_P D vwCl [(t, .inr (1, [.ref t_row_a, .ref t_count_a])), (t_row_a, .inl (cI, 1440, .inl f1)), (t_count_a, .inl (cI, 10, .inl f2)), (o, .inr (1, [.ref o_row_a, .ref o_count_a])), (o_row_a, .inl (cI, 1440, .inl o_row)), (o_count_a, .inl (cI, 10, .inl o_count))] H := hP
  have hD : va_D A [(t, .inr (1, [.ref t_row_a, .ref t_count_a])), (t_row_a, .inl (cI, 1440, .inl f1)), (t_count_a, .inl (cI, 10, .inl f2)), (o, .inr (1, [.ref o_row_a, .ref o_count_a])), (o_row_a, .inl (cI, 1440, .inl o_row)), (o_count_a, .inl (cI, 10, .inl o_count))] := hD
  have ho := Option.some.inj hm
  exact k_vret hx hb hr hlocks hK hP hD hS dX1_copyOne_36 hQ rfl (by rw [← ho])
noncomputable def M_FactSet_nthBit_L4 (F : Nat) (w0 : Int32) : Nat → Int32 → Int32 → Option ((Unit) ⊕ ((Int32)))
  | 0, _, _ => none
  | n + 1, y3, y2 => if (12 : Int32) ≤ y3 then (some (.inl ())) else (if ((w0 >>> (y3 &&& 31)) &&& (1 : Int32)) = 0 then (lt_ (y3 + (1 : Int32)) fun v1 => M_FactSet_nthBit_L4 F w0 n v1 y2) else (if y2 = 0 then (some (.inr y3)) else (lt_ (y2 + (-1 : Int32)) fun v2 => lt_ (y3 + (1 : Int32)) fun v3 => M_FactSet_nthBit_L4 F w0 n v3 v2)))
noncomputable def M_FactSet_nthBit (F : Nat) (x0 : Int32) (x1 : Int32) : Option ((Int32)) := bd_ (M_FactSet_nthBit_L4 F x0 F (0 : Int32) x1) fun z4 => cs_ z4 (fun q5 => some (-1 : Int32)) (fun o => some o)
set_option maxRecDepth 100000 in
set_option maxHeartbeats 4000000 in
theorem K_FactSet_nthBit (l : Launch) (D : va_G) (cB cI cZ cJ : ClassId) (x0 : Int32) (x1 : Int32) (F : Nat) (out : (Int32)) (hm : M_FactSet_nthBit F x0 x1 = some out) : KC l yX1_nthBit cX1_nthBit 4 (some .int) { frames := 0, cells := 0, slots := 0, locals := 0 } D (kTy cB cI cZ cJ) [.int x0, .int x1] [] (some (.int out)) [] := by
  refine KC.of (by decide +kernel) (Nat.le_of_ble_eq_true rfl) ?_
  intro p e s m below meth c A ls args Q hQ CX hA hK hP hD hl
  obtain ⟨hx, hb, hr, hml, hown, hts, hlocks⟩ := CX
  have hown : s.vm.findClass RX1 = some m.cls := hown
  have hS : va_S A s.heap s.heap [] := va_S.rf
  have hl : lv_has ls 4 [(0, .int x0), (1, .int x1)] := hl
  have L4 : ∀ (w0 : Int32) (n : Nat) (y3 : Int32) (y2 : Int32) (z : ((Unit) ⊕ ((Int32)))), M_FactSet_nthBit_L4 F w0 n y3 y2 = some z →
      (∀ (q : Unit) (H : Heap) (locs : List Loc) (ls : Array Slot), z = .inl q → va_P D vwCl [] H → va_D A [] → va_S A s.heap H locs → lv_has ls 4 [] → W p l e { frames := 0, cells := 0, slots := 0, locals := 0 } s m args below meth c H locs 0 0 Q (F0 m 33 ls [])) →
      (∀ o, z = .inr o → o = out) →
      ∀ (H : Heap) (locs : List Loc) (ls : Array Slot), va_P D vwCl [] H → va_D A [] → va_S A s.heap H locs → lv_has ls 4 [(3, .int y3), (2, .int y2), (0, .int w0)] → W p l e { frames := 0, cells := 0, slots := 0, locals := 0 } s m args below meth c H locs 0 0 Q (F0 m 4 ls []) := by
    intro w0 n
    induction n with
    | zero => intro y3 y2 z hm; unfold M_FactSet_nthBit_L4 at hm; cases hm
    | succ n ih =>
      intro y3 y2 z hm hE hR H locs ls hP hD hS hl
      unfold M_FactSet_nthBit_L4 at hm
      refine lv_iload_n hx hb dX1_nthBit_4 rfl (lv_at hl 0 rfl) ?_
      refine lv_bipush (v := (12 : Int32)) hx hb dX1_nthBit_5 (by decide) ?_
      refine lv_icmp_ge (tgt := 33) hx hb dX1_nthBit_7 (by decide) (fun hc => ?_) (fun hc => ?_)
      · have hm := if_t hc hm
        exact hE _ H locs ls (Option.some.inj hm).symm hP hD hS (lv_sub hl [] rfl)
      · have hm := if_f hc hm
        refine lv_iload_n hx hb dX1_nthBit_10 rfl (lv_at hl 2 rfl) ?_
        refine lv_iload_n hx hb dX1_nthBit_11 rfl (lv_at hl 0 rfl) ?_
        refine lv_ishr hx hb dX1_nthBit_12 ?_
        refine lv_iconst (v := (1 : Int32)) hx hb dX1_nthBit_13 (by decide) ?_
        refine lv_iand hx hb dX1_nthBit_14 ?_
        refine lv_if_eq (tgt := 27) hx hb dX1_nthBit_15 (by decide) (fun hc => ?_) (fun hc => ?_)
        · have hm := if_t hc hm
          obtain ⟨v1, ev1⟩ : ∃ y : Int32, y = y3 + (1 : Int32) := ⟨_, rfl⟩
          have hm := lt_at ev1 hm
          refine lv_iinc (v := v1) (lv' := [(3, .int v1), (2, .int y2), (0, .int w0)]) hx hb dX1_nthBit_27 hl (k := 0) rfl (by rw [ev1]; rfl) (by decide) rfl (fun ls hl => ?_)
          refine lv_goto (tgt := 4) hx hb dX1_nthBit_30 (by decide) ?_
          exact ih v1 y2 z hm hE hR H locs ls hP hD hS (lv_sub hl [0, 1, 2] rfl)
        · have hm := if_f hc hm
          refine lv_iload_n hx hb dX1_nthBit_18 rfl (lv_at hl 1 rfl) ?_
          refine lv_if_ne (tgt := 24) hx hb dX1_nthBit_19 (by decide) (fun hc => ?_) (fun hc => ?_)
          · have hm := if_f hc hm
            obtain ⟨v2, ev2⟩ : ∃ y : Int32, y = y2 + (-1 : Int32) := ⟨_, rfl⟩
            have hm := lt_at ev2 hm
            refine lv_iinc (v := v2) (lv' := [(2, .int v2), (3, .int y3), (0, .int w0)]) hx hb dX1_nthBit_24 hl (k := 1) rfl (by rw [ev2]; rfl) (by decide) rfl (fun ls hl => ?_)
            obtain ⟨v3, ev3⟩ : ∃ y : Int32, y = y3 + (1 : Int32) := ⟨_, rfl⟩
            have hm := lt_at ev3 hm
            refine lv_iinc (v := v3) (lv' := [(3, .int v3), (2, .int v2), (0, .int w0)]) hx hb dX1_nthBit_27 hl (k := 1) rfl (by rw [ev3]; rfl) (by decide) rfl (fun ls hl => ?_)
            refine lv_goto (tgt := 4) hx hb dX1_nthBit_30 (by decide) ?_
            exact ih v3 v2 z hm hE hR H locs ls hP hD hS (lv_sub hl [0, 1, 2] rfl)
          · have hm := if_t hc hm
            refine lv_iload_n hx hb dX1_nthBit_22 rfl (lv_at hl 0 rfl) ?_
            have ho := hR _ (Option.some.inj hm).symm
            exact k_iret hx hb hr hlocks hK hP hD hS dX1_nthBit_23 hQ (by rw [← ho]) rfl
  unfold M_FactSet_nthBit at hm
  obtain ⟨H, eH⟩ : ∃ H, H = s.heap := ⟨_, rfl⟩
  obtain ⟨locs, el⟩ : ∃ x : List Loc, x = [] := ⟨_, rfl⟩
  have hP : va_P D vwCl [] H := eH ▸ hP
  have hS : va_S A s.heap H locs := by rw [eH, el]; exact hS
  suffices hW : W p l e { frames := 0, cells := 0, slots := 0, locals := 0 } s m args below meth c H locs 0 0 Q (F0 m 0 ls []) by rw [eH, el] at hW; exact hW
  clear eH el
  refine lv_iload_n hx hb dX1_nthBit_0 rfl (lv_at hl 1 rfl) ?_
  refine lv_istore_n (lv' := [(2, .int x1), (0, .int x0), (1, .int x1)]) hx hb dX1_nthBit_1 rfl hl (by decide) rfl (fun ls hl => ?_)
  refine lv_iconst (v := (0 : Int32)) hx hb dX1_nthBit_2 (by decide) ?_
  refine lv_istore_n (lv' := [(3, .int (0 : Int32)), (2, .int x1), (0, .int x0), (1, .int x1)]) hx hb dX1_nthBit_3 rfl hl (by decide) rfl (fun ls hl => ?_)
  obtain ⟨z4, hz4, hm⟩ := bd_at hm
  refine L4 x0 F (0 : Int32) x1 z4 hz4 (fun q5 H locs ls ez hP hD hS hl => ?_) (fun o ho => ?_) H locs ls hP hD hS (lv_sub hl [0, 1, 2] rfl)
  · have hm := cs_l ez hm
    refine lv_iconst (v := (-1 : Int32)) hx hb dX1_nthBit_33 (by decide) ?_
    have ho := Option.some.inj hm
    exact k_iret hx hb hr hlocks hK hP hD hS dX1_nthBit_34 hQ (by rw [← ho]) rfl
  · have hm := cs_r ho hm
    exact Option.some.inj hm
noncomputable def M_FactSet_absorb_L14 (F : Nat) (o_row : Nat → Int32) (w2 : Int32) : Nat → Int32 → Int32 → (Nat → Int32) → Option ((Nat → Int32))
  | 0, _, _, _ => none
  | n + 1, y4, y3, c_t_row => if y3 ≤ 0 then (some c_t_row) else (if ((w2 + (1 : Int32)) * (144 : Int32)) ≤ y4 then (some c_t_row) else (gd_ y4 1440 <| gd_ y4 1440 <| lt_ (((c_t_row y4.toNatClampNeg) ||| (o_row y4.toNatClampNeg))) fun v3 => gd_ y4 1440 <| lt_ (upd c_t_row y4.toNatClampNeg v3) fun f4 => gd_ y4 1440 <| bd_ (M_Integer_bitCount_0f7a4 (o_row y4.toNatClampNeg)) fun z5 => lt_ ((y3 - z5)) fun v6 => lt_ (y4 + (1 : Int32)) fun v7 => M_FactSet_absorb_L14 F o_row w2 n v7 v6 f4))
noncomputable def M_FactSet_absorb (F : Nat) (t_row : Nat → Int32) (t_count : Nat → Int32) (o_row : Nat → Int32) (o_count : Nat → Int32) (x1 : Int32) : Option ((Nat → Int32) × (Nat → Int32)) := gd_ x1 10 <| lt_ ((o_count x1.toNatClampNeg)) fun v1 => lt_ ((x1 * (144 : Int32))) fun v2 => bd_ (M_FactSet_absorb_L14 F o_row x1 F v2 v1 t_row) fun z8 => gd_ x1 10 <| gd_ x1 10 <| lt_ (((t_count x1.toNatClampNeg) + (o_count x1.toNatClampNeg))) fun v9 => gd_ x1 10 <| lt_ (upd t_count x1.toNatClampNeg v9) fun f10 => some (z8, f10)
set_option maxRecDepth 100000 in
set_option maxHeartbeats 4000000 in
theorem K_FactSet_absorb (l : Launch) (D : va_G) (cB cI cZ cJ : ClassId) (t : Nat) (t_row_a : Nat) (t_count_a : Nat) (o : Nat) (o_row_a : Nat) (o_count_a : Nat) (t_row : Nat → Int32) (t_count : Nat → Int32) (o_row : Nat → Int32) (o_count : Nat → Int32) (x1 : Int32) (F : Nat) (out : (Nat → Int32) × (Nat → Int32)) (hm : M_FactSet_absorb F t_row t_count o_row o_count x1 = some out) : KC l yX1_absorb cX1_absorb 5 none { frames := 1, cells := 0, slots := 0, locals := 20 } D (kTy cB cI cZ cJ) [.ref t, .ref o, .int x1] [(t, .inr (1, [.ref t_row_a, .ref t_count_a])), (t_row_a, .inl (cI, 1440, .inl t_row)), (t_count_a, .inl (cI, 10, .inl t_count)), (o, .inr (1, [.ref o_row_a, .ref o_count_a])), (o_row_a, .inl (cI, 1440, .inl o_row)), (o_count_a, .inl (cI, 10, .inl o_count))] none [(t, .inr (1, [.ref t_row_a, .ref t_count_a])), (t_row_a, .inl (cI, 1440, .inl out.1)), (t_count_a, .inl (cI, 10, .inl out.2)), (o, .inr (1, [.ref o_row_a, .ref o_count_a])), (o_row_a, .inl (cI, 1440, .inl o_row)), (o_count_a, .inl (cI, 10, .inl o_count))] := by
  refine KC.of (by decide +kernel) (Nat.le_of_ble_eq_true rfl) ?_
  intro p e s m below meth c A ls args Q hQ CX hA hK hP hD hl
  obtain ⟨hx, hb, hr, hml, hown, hts, hlocks⟩ := CX
  have hown : s.vm.findClass RX1 = some m.cls := hown
  have hS : va_S A s.heap s.heap [] := va_S.rf
  have hl : lv_has ls 5 [(0, .ref t), (1, .ref o), (2, .int x1)] := hl
  have L14 : ∀ (c_t_count : Nat → Int32) (w2 : Int32) (n : Nat) (y4 : Int32) (y3 : Int32) (c_t_row : Nat → Int32) (z : ((Nat → Int32))), M_FactSet_absorb_L14 F o_row w2 n y4 y3 c_t_row = some z →
      (∀ (H : Heap) (locs : List Loc) (ls : Array Slot), va_P D vwCl [(t, .inr (1, [.ref t_row_a, .ref t_count_a])), (t_row_a, .inl (cI, 1440, .inl z)), (t_count_a, .inl (cI, 10, .inl c_t_count)), (o, .inr (1, [.ref o_row_a, .ref o_count_a])), (o_row_a, .inl (cI, 1440, .inl o_row)), (o_count_a, .inl (cI, 10, .inl o_count))] H → va_D A [(t, .inr (1, [.ref t_row_a, .ref t_count_a])), (t_row_a, .inl (cI, 1440, .inl z)), (t_count_a, .inl (cI, 10, .inl c_t_count)), (o, .inr (1, [.ref o_row_a, .ref o_count_a])), (o_row_a, .inl (cI, 1440, .inl o_row)), (o_count_a, .inl (cI, 10, .inl o_count))] → va_S A s.heap H locs → lv_has ls 5 [(0, .ref t), (1, .ref o), (2, .int w2)] → W p l e { frames := 1, cells := 0, slots := 0, locals := 20 } s m args below meth c H locs 0 0 Q (F0 m 66 ls [])) →
      ∀ (H : Heap) (locs : List Loc) (ls : Array Slot), va_P D vwCl [(t, .inr (1, [.ref t_row_a, .ref t_count_a])), (t_row_a, .inl (cI, 1440, .inl c_t_row)), (t_count_a, .inl (cI, 10, .inl c_t_count)), (o, .inr (1, [.ref o_row_a, .ref o_count_a])), (o_row_a, .inl (cI, 1440, .inl o_row)), (o_count_a, .inl (cI, 10, .inl o_count))] H → va_D A [(t, .inr (1, [.ref t_row_a, .ref t_count_a])), (t_row_a, .inl (cI, 1440, .inl c_t_row)), (t_count_a, .inl (cI, 10, .inl c_t_count)), (o, .inr (1, [.ref o_row_a, .ref o_count_a])), (o_row_a, .inl (cI, 1440, .inl o_row)), (o_count_a, .inl (cI, 10, .inl o_count))] → va_S A s.heap H locs → lv_has ls 5 [(4, .int y4), (3, .int y3), (0, .ref t), (1, .ref o), (2, .int w2)] → W p l e { frames := 1, cells := 0, slots := 0, locals := 20 } s m args below meth c H locs 0 0 Q (F0 m 14 ls []) := by
    intro c_t_count w2 n
    induction n with
    | zero => intro y4 y3 c_t_row z hm; unfold M_FactSet_absorb_L14 at hm; cases hm
    | succ n ih =>
      intro y4 y3 c_t_row z hm hE H locs ls hP hD hS hl
      unfold M_FactSet_absorb_L14 at hm
      refine lv_iload_n hx hb dX1_absorb_14 rfl (lv_at hl 1 rfl) ?_
      refine lv_if_le (tgt := 66) hx hb dX1_absorb_15 (by decide) (fun hc => ?_) (fun hc => ?_)
      · have hm := if_t hc hm
        cases hm
        exact hE H locs ls hP hD hS (lv_sub hl [2, 3, 4] rfl)
      · have hm := if_f hc hm
        refine lv_iload hx hb dX1_absorb_18 (lv_at hl 0 rfl) ?_
        refine lv_iload_n hx hb dX1_absorb_20 rfl (lv_at hl 4 rfl) ?_
        refine lv_iconst (v := (1 : Int32)) hx hb dX1_absorb_21 (by decide) ?_
        refine lv_iadd hx hb dX1_absorb_22 ?_
        refine lv_sipush (v := (144 : Int32)) hx hb dX1_absorb_23 (by decide) ?_
        refine lv_imul hx hb dX1_absorb_26 ?_
        refine lv_icmp_ge (tgt := 66) hx hb dX1_absorb_27 (by decide) (fun hc => ?_) (fun hc => ?_)
        · have hm := if_t hc hm
          cases hm
          exact hE H locs ls hP hD hS (lv_sub hl [2, 3, 4] rfl)
        · have hm := if_f hc hm
          refine lv_aload_n hx hb dX1_absorb_30 rfl (lv_at hl 2 rfl) ?_
          refine va_get (D := D) (ci := 1) (v := .ref t_row_a) (C := RX1) (T := TX1) (N := 2) hx hb hts in_X1 hown hK hP 0 rfl rfl 0 (by decide) (hts _ kf_X1_11) (fun _ h9 => h9) rfl dX1_absorb_31 ?_
          refine lv_iload hx hb dX1_absorb_34 (lv_at hl 0 rfl) ?_
          refine lv_dup2_11 hx hb dX1_absorb_36 rfl rfl ?_
          refine va_iald hx hb hK hP 1 1 rfl rfl (gd_in hm) dX1_absorb_37 ?_
          have hm := gd_go hm
          refine lv_aload_n hx hb dX1_absorb_38 rfl (lv_at hl 3 rfl) ?_
          refine va_get (D := D) (ci := 1) (v := .ref o_row_a) (C := RX1) (T := TX1) (N := 2) hx hb hts in_X1 hown hK hP 3 rfl rfl 0 (by decide) (hts _ kf_X1_11) (fun _ h9 => h9) rfl dX1_absorb_39 ?_
          refine lv_iload hx hb dX1_absorb_42 (lv_at hl 0 rfl) ?_
          refine va_iald hx hb hK hP 4 1 rfl rfl (gd_in hm) dX1_absorb_44 ?_
          have hm := gd_go hm
          refine lv_ior hx hb dX1_absorb_45 ?_
          refine lv_topi (fun v3 ev3 => ?_)
          have hm := lt_at ev3 hm
          refine k_iast hx hb hK hP hD hS 1 1 rfl rfl (gd_in hm) dX1_absorb_46 (fun f4 ef4 H locs hP hD hS => ?_)
          have hm := lt_at ef4 (gd_go hm)
          have hP : va_P D vwCl [(t, .inr (1, [.ref t_row_a, .ref t_count_a])), (t_row_a, .inl (cI, 1440, .inl f4)), (t_count_a, .inl (cI, 10, .inl c_t_count)), (o, .inr (1, [.ref o_row_a, .ref o_count_a])), (o_row_a, .inl (cI, 1440, .inl o_row)), (o_count_a, .inl (cI, 10, .inl o_count))] H := hP
          have hD : va_D A [(t, .inr (1, [.ref t_row_a, .ref t_count_a])), (t_row_a, .inl (cI, 1440, .inl f4)), (t_count_a, .inl (cI, 10, .inl c_t_count)), (o, .inr (1, [.ref o_row_a, .ref o_count_a])), (o_row_a, .inl (cI, 1440, .inl o_row)), (o_count_a, .inl (cI, 10, .inl o_count))] := hD
          refine lv_iload_n hx hb dX1_absorb_47 rfl (lv_at hl 1 rfl) ?_
          refine lv_aload_n hx hb dX1_absorb_48 rfl (lv_at hl 3 rfl) ?_
          refine va_get (D := D) (ci := 1) (v := .ref o_row_a) (C := RX1) (T := TX1) (N := 2) hx hb hts in_X1 hown hK hP 3 rfl rfl 0 (by decide) (hts _ kf_X1_11) (fun _ h9 => h9) rfl dX1_absorb_49 ?_
          refine lv_iload hx hb dX1_absorb_52 (lv_at hl 0 rfl) ?_
          refine va_iald hx hb hK hP 4 1 rfl rfl (gd_in hm) dX1_absorb_54 ?_
          have hm := gd_go hm
          obtain ⟨z5, hz5, hm⟩ := bd_at hm
          refine k_callS (As := [.int (o_row y4.toNatClampNeg)]) (rest := [.int y3]) (wr := [(t, .inr (1, [.ref t_row_a, .ref t_count_a])), (t_row_a, .inl (cI, 1440, .inl f4)), (t_count_a, .inl (cI, 10, .inl c_t_count)), (o, .inr (1, [.ref o_row_a, .ref o_count_a])), (o_row_a, .inl (cI, 1440, .inl o_row)), (o_count_a, .inl (cI, 10, .inl o_count))]) (ws1 := [(t, .inr (1, [.ref t_row_a, .ref t_count_a])), (t_row_a, .inl (cI, 1440, .inl f4)), (t_count_a, .inl (cI, 10, .inl c_t_count)), (o, .inr (1, [.ref o_row_a, .ref o_count_a])), (o_row_a, .inl (cI, 1440, .inl o_row)), (o_count_a, .inl (cI, 10, .inl o_count))]) [] [0, 1, 2, 3, 4, 5] [0, 1, 2, 3, 4, 5] (K_Integer_bitCount_0f7a4 l D cB cI cZ cJ (o_row y4.toNatClampNeg) z5 hz5) ms_J6_bitCount_0f7a4 km_X1_32 hx hb hml hown hts hK hP hD hS hA hl.1 ⟨Nat.zero_le _, Nat.zero_le _⟩ dX1_absorb_55 rfl rfl (Nat.le_of_ble_eq_true rfl) ⟨⟨rfl, rfl⟩, Nat.le_of_ble_eq_true rfl, Nat.le_of_ble_eq_true rfl⟩ rfl rfl (by decide) rfl (fun H locs hP hD hS => ?_)
          have hP : va_P D vwCl [(t, .inr (1, [.ref t_row_a, .ref t_count_a])), (t_row_a, .inl (cI, 1440, .inl f4)), (t_count_a, .inl (cI, 10, .inl c_t_count)), (o, .inr (1, [.ref o_row_a, .ref o_count_a])), (o_row_a, .inl (cI, 1440, .inl o_row)), (o_count_a, .inl (cI, 10, .inl o_count))] H := hP
          have hD : va_D A [(t, .inr (1, [.ref t_row_a, .ref t_count_a])), (t_row_a, .inl (cI, 1440, .inl f4)), (t_count_a, .inl (cI, 10, .inl c_t_count)), (o, .inr (1, [.ref o_row_a, .ref o_count_a])), (o_row_a, .inl (cI, 1440, .inl o_row)), (o_count_a, .inl (cI, 10, .inl o_count))] := hD
          refine lv_isub hx hb dX1_absorb_58 ?_
          refine lv_topi (fun v6 ev6 => ?_)
          have hm := lt_at ev6 hm
          refine lv_istore_n (lv' := [(3, .int v6), (4, .int y4), (0, .ref t), (1, .ref o), (2, .int w2)]) hx hb dX1_absorb_59 rfl hl (by decide) rfl (fun ls hl => ?_)
          obtain ⟨v7, ev7⟩ : ∃ y : Int32, y = y4 + (1 : Int32) := ⟨_, rfl⟩
          have hm := lt_at ev7 hm
          refine lv_iinc (v := v7) (lv' := [(4, .int v7), (3, .int v6), (0, .ref t), (1, .ref o), (2, .int w2)]) hx hb dX1_absorb_60 hl (k := 1) rfl (by rw [ev7]; rfl) (by decide) rfl (fun ls hl => ?_)
          refine lv_goto (tgt := 14) hx hb dX1_absorb_63 (by decide) ?_
          exact ih v7 v6 f4 z hm hE H locs ls hP hD hS (lv_sub hl [0, 1, 2, 3, 4] rfl)
  unfold M_FactSet_absorb at hm
  obtain ⟨H, eH⟩ : ∃ H, H = s.heap := ⟨_, rfl⟩
  obtain ⟨locs, el⟩ : ∃ x : List Loc, x = [] := ⟨_, rfl⟩
  have hP : va_P D vwCl [(t, .inr (1, [.ref t_row_a, .ref t_count_a])), (t_row_a, .inl (cI, 1440, .inl t_row)), (t_count_a, .inl (cI, 10, .inl t_count)), (o, .inr (1, [.ref o_row_a, .ref o_count_a])), (o_row_a, .inl (cI, 1440, .inl o_row)), (o_count_a, .inl (cI, 10, .inl o_count))] H := eH ▸ hP
  have hS : va_S A s.heap H locs := by rw [eH, el]; exact hS
  suffices hW : W p l e { frames := 1, cells := 0, slots := 0, locals := 20 } s m args below meth c H locs 0 0 Q (F0 m 0 ls []) by rw [eH, el] at hW; exact hW
  clear eH el
  refine lv_aload_n hx hb dX1_absorb_0 rfl (lv_at hl 1 rfl) ?_
  refine va_get (D := D) (ci := 1) (v := .ref o_count_a) (C := RX1) (T := TX1) (N := 2) hx hb hts in_X1 hown hK hP 3 rfl rfl 1 (by decide) (hts _ kf_X1_15) (fun _ h9 => h9) rfl dX1_absorb_1 ?_
  refine lv_iload_n hx hb dX1_absorb_4 rfl (lv_at hl 2 rfl) ?_
  refine va_iald hx hb hK hP 5 1 rfl rfl (gd_in hm) dX1_absorb_5 ?_
  have hm := gd_go hm
  refine lv_topi (fun v1 ev1 => ?_)
  have hm := lt_at ev1 hm
  refine lv_istore_n (lv' := [(3, .int v1), (0, .ref t), (1, .ref o), (2, .int x1)]) hx hb dX1_absorb_6 rfl hl (by decide) rfl (fun ls hl => ?_)
  refine lv_iload_n hx hb dX1_absorb_7 rfl (lv_at hl 3 rfl) ?_
  refine lv_sipush (v := (144 : Int32)) hx hb dX1_absorb_8 (by decide) ?_
  refine lv_imul hx hb dX1_absorb_11 ?_
  refine lv_topi (fun v2 ev2 => ?_)
  have hm := lt_at ev2 hm
  refine lv_istore (lv' := [(4, .int v2), (3, .int v1), (0, .ref t), (1, .ref o), (2, .int x1)]) hx hb dX1_absorb_12 hl (by decide) rfl (fun ls hl => ?_)
  obtain ⟨z8, hz8, hm⟩ := bd_at hm
  refine L14 t_count x1 F v2 v1 t_row z8 hz8 (fun H locs ls hP hD hS hl => ?_) H locs ls hP hD hS (lv_sub hl [0, 1, 2, 3, 4] rfl)
  refine lv_aload_n hx hb dX1_absorb_66 rfl (lv_at hl 0 rfl) ?_
  refine va_get (D := D) (ci := 1) (v := .ref t_count_a) (C := RX1) (T := TX1) (N := 2) hx hb hts in_X1 hown hK hP 0 rfl rfl 1 (by decide) (hts _ kf_X1_15) (fun _ h9 => h9) rfl dX1_absorb_67 ?_
  refine lv_iload_n hx hb dX1_absorb_70 rfl (lv_at hl 2 rfl) ?_
  refine lv_dup2_11 hx hb dX1_absorb_71 rfl rfl ?_
  refine va_iald hx hb hK hP 2 1 rfl rfl (gd_in hm) dX1_absorb_72 ?_
  have hm := gd_go hm
  refine lv_aload_n hx hb dX1_absorb_73 rfl (lv_at hl 1 rfl) ?_
  refine va_get (D := D) (ci := 1) (v := .ref o_count_a) (C := RX1) (T := TX1) (N := 2) hx hb hts in_X1 hown hK hP 3 rfl rfl 1 (by decide) (hts _ kf_X1_15) (fun _ h9 => h9) rfl dX1_absorb_74 ?_
  refine lv_iload_n hx hb dX1_absorb_77 rfl (lv_at hl 2 rfl) ?_
  refine va_iald hx hb hK hP 5 1 rfl rfl (gd_in hm) dX1_absorb_78 ?_
  have hm := gd_go hm
  refine lv_iadd hx hb dX1_absorb_79 ?_
  refine lv_topi (fun v9 ev9 => ?_)
  have hm := lt_at ev9 hm
  refine k_iast hx hb hK hP hD hS 2 1 rfl rfl (gd_in hm) dX1_absorb_80 (fun f10 ef10 H locs hP hD hS => ?_)
  have hm := lt_at ef10 (gd_go hm)
  have hP : va_P D vwCl [(t, .inr (1, [.ref t_row_a, .ref t_count_a])), (t_row_a, .inl (cI, 1440, .inl z8)), (t_count_a, .inl (cI, 10, .inl f10)), (o, .inr (1, [.ref o_row_a, .ref o_count_a])), (o_row_a, .inl (cI, 1440, .inl o_row)), (o_count_a, .inl (cI, 10, .inl o_count))] H := hP
  have hD : va_D A [(t, .inr (1, [.ref t_row_a, .ref t_count_a])), (t_row_a, .inl (cI, 1440, .inl z8)), (t_count_a, .inl (cI, 10, .inl f10)), (o, .inr (1, [.ref o_row_a, .ref o_count_a])), (o_row_a, .inl (cI, 1440, .inl o_row)), (o_count_a, .inl (cI, 10, .inl o_count))] := hD
  have ho := Option.some.inj hm
  exact k_vret hx hb hr hlocks hK hP hD hS dX1_absorb_81 hQ rfl (by rw [← ho])
noncomputable def M_FactSet_nth_L31 (F : Nat) (t_row : Nat → Int32) (w1 : Int32) : Nat → Int32 → Int32 → Option ((Unit) ⊕ ((Int32)))
  | 0, _, _ => none
  | n + 1, y4, y3 => if (144 : Int32) ≤ y4 then (some (.inl ())) else (gd_ ((w1 * (144 : Int32)) + y4) 1440 <| lt_ ((t_row ((w1 * (144 : Int32)) + y4).toNatClampNeg)) fun v1 => bd_ (M_Integer_bitCount_0f7a4 v1) fun z2 => if z2 ≤ y3 then (bd_ (M_Integer_bitCount_0f7a4 v1) fun z3 => lt_ ((y3 - z3)) fun v4 => lt_ (y4 + (1 : Int32)) fun v5 => M_FactSet_nth_L31 F t_row w1 n v5 v4) else (bd_ (M_FactSet_nthBit F v1 y3) fun z6 => some (.inr ((y4 * (12 : Int32)) + z6))))
noncomputable def M_FactSet_nth (F : Nat) (t_row : Nat → Int32) (t_count : Nat → Int32) (x0 : Int32) (x1 : Int32) : Option ((Int32)) := if x0 < 0 then (some (-1 : Int32)) else (if (10 : Int32) ≤ x0 then (some (-1 : Int32)) else (if x1 < 0 then (some (-1 : Int32)) else (gd_ x0 10 <| if x1 < (t_count x0.toNatClampNeg) then (bd_ (M_FactSet_nth_L31 F t_row x0 F (0 : Int32) x1) fun z7 => cs_ z7 (fun q8 => some (-1 : Int32)) (fun o => some o)) else (some (-1 : Int32)))))
set_option maxRecDepth 100000 in
set_option maxHeartbeats 4000000 in
theorem K_FactSet_nth (l : Launch) (D : va_G) (cB cI cZ cJ : ClassId) (t : Nat) (t_row_a : Nat) (t_count_a : Nat) (t_row : Nat → Int32) (t_count : Nat → Int32) (x0 : Int32) (x1 : Int32) (F : Nat) (out : (Int32)) (hm : M_FactSet_nth F t_row t_count x0 x1 = some out) : KC l yX1_nth cX1_nth 6 (some .int) { frames := 1, cells := 0, slots := 0, locals := 23 } D (kTy cB cI cZ cJ) [.ref t, .int x0, .int x1] [(t, .inr (1, [.ref t_row_a, .ref t_count_a])), (t_row_a, .inl (cI, 1440, .inl t_row)), (t_count_a, .inl (cI, 10, .inl t_count))] (some (.int out)) [(t, .inr (1, [.ref t_row_a, .ref t_count_a])), (t_row_a, .inl (cI, 1440, .inl t_row)), (t_count_a, .inl (cI, 10, .inl t_count))] := by
  refine KC.of (by decide +kernel) (Nat.le_of_ble_eq_true rfl) ?_
  intro p e s m below meth c A ls args Q hQ CX hA hK hP hD hl
  obtain ⟨hx, hb, hr, hml, hown, hts, hlocks⟩ := CX
  have hown : s.vm.findClass RX1 = some m.cls := hown
  have hS : va_S A s.heap s.heap [] := va_S.rf
  have hl : lv_has ls 6 [(0, .ref t), (1, .int x0), (2, .int x1)] := hl
  have L31 : ∀ (w1 : Int32) (n : Nat) (y4 : Int32) (y3 : Int32) (z : ((Unit) ⊕ ((Int32)))), M_FactSet_nth_L31 F t_row w1 n y4 y3 = some z →
      (∀ (q : Unit) (H : Heap) (locs : List Loc) (ls : Array Slot), z = .inl q → va_P D vwCl [(t, .inr (1, [.ref t_row_a, .ref t_count_a])), (t_row_a, .inl (cI, 1440, .inl t_row)), (t_count_a, .inl (cI, 10, .inl t_count))] H → va_D A [(t, .inr (1, [.ref t_row_a, .ref t_count_a])), (t_row_a, .inl (cI, 1440, .inl t_row)), (t_count_a, .inl (cI, 10, .inl t_count))] → va_S A s.heap H locs → lv_has ls 6 [] → W p l e { frames := 1, cells := 0, slots := 0, locals := 23 } s m args below meth c H locs 0 0 Q (F0 m 90 ls [])) →
      (∀ o, z = .inr o → o = out) →
      ∀ (H : Heap) (locs : List Loc) (ls : Array Slot), va_P D vwCl [(t, .inr (1, [.ref t_row_a, .ref t_count_a])), (t_row_a, .inl (cI, 1440, .inl t_row)), (t_count_a, .inl (cI, 10, .inl t_count))] H → va_D A [(t, .inr (1, [.ref t_row_a, .ref t_count_a])), (t_row_a, .inl (cI, 1440, .inl t_row)), (t_count_a, .inl (cI, 10, .inl t_count))] → va_S A s.heap H locs → lv_has ls 6 [(4, .int y4), (3, .int y3), (0, .ref t), (1, .int w1)] → W p l e { frames := 1, cells := 0, slots := 0, locals := 23 } s m args below meth c H locs 0 0 Q (F0 m 31 ls []) := by
    intro w1 n
    induction n with
    | zero => intro y4 y3 z hm; unfold M_FactSet_nth_L31 at hm; cases hm
    | succ n ih =>
      intro y4 y3 z hm hE hR H locs ls hP hD hS hl
      unfold M_FactSet_nth_L31 at hm
      refine lv_iload hx hb dX1_nth_31 (lv_at hl 0 rfl) ?_
      refine lv_sipush (v := (144 : Int32)) hx hb dX1_nth_33 (by decide) ?_
      refine lv_icmp_ge (tgt := 90) hx hb dX1_nth_36 (by decide) (fun hc => ?_) (fun hc => ?_)
      · have hm := if_t hc hm
        exact hE _ H locs ls (Option.some.inj hm).symm hP hD hS (lv_sub hl [] rfl)
      · have hm := if_f hc hm
        refine lv_aload_n hx hb dX1_nth_39 rfl (lv_at hl 2 rfl) ?_
        refine va_get (D := D) (ci := 1) (v := .ref t_row_a) (C := RX1) (T := TX1) (N := 2) hx hb hts in_X1 hown hK hP 0 rfl rfl 0 (by decide) (hts _ kf_X1_11) (fun _ h9 => h9) rfl dX1_nth_40 ?_
        refine lv_iload_n hx hb dX1_nth_43 rfl (lv_at hl 3 rfl) ?_
        refine lv_sipush (v := (144 : Int32)) hx hb dX1_nth_44 (by decide) ?_
        refine lv_imul hx hb dX1_nth_47 ?_
        refine lv_iload hx hb dX1_nth_48 (lv_at hl 0 rfl) ?_
        refine lv_iadd hx hb dX1_nth_50 ?_
        refine va_iald hx hb hK hP 1 1 rfl rfl (gd_in hm) dX1_nth_51 ?_
        have hm := gd_go hm
        refine lv_topi (fun v1 ev1 => ?_)
        have hm := lt_at ev1 hm
        refine lv_istore (lv' := [(5, .int v1), (4, .int y4), (3, .int y3), (0, .ref t), (1, .int w1)]) hx hb dX1_nth_52 hl (by decide) rfl (fun ls hl => ?_)
        refine lv_iload_n hx hb dX1_nth_54 rfl (lv_at hl 2 rfl) ?_
        refine lv_iload hx hb dX1_nth_55 (lv_at hl 0 rfl) ?_
        obtain ⟨z2, hz2, hm⟩ := bd_at hm
        refine k_callS (As := [.int v1]) (rest := [.int y3]) (wr := [(t, .inr (1, [.ref t_row_a, .ref t_count_a])), (t_row_a, .inl (cI, 1440, .inl t_row)), (t_count_a, .inl (cI, 10, .inl t_count))]) (ws1 := [(t, .inr (1, [.ref t_row_a, .ref t_count_a])), (t_row_a, .inl (cI, 1440, .inl t_row)), (t_count_a, .inl (cI, 10, .inl t_count))]) [] [0, 1, 2] [0, 1, 2] (K_Integer_bitCount_0f7a4 l D cB cI cZ cJ v1 z2 hz2) ms_J6_bitCount_0f7a4 km_X1_32 hx hb hml hown hts hK hP hD hS hA hl.1 ⟨Nat.zero_le _, Nat.zero_le _⟩ dX1_nth_57 rfl rfl (Nat.le_of_ble_eq_true rfl) ⟨⟨rfl, rfl⟩, Nat.le_of_ble_eq_true rfl, Nat.le_of_ble_eq_true rfl⟩ rfl rfl (by decide) rfl (fun H locs hP hD hS => ?_)
        have hP : va_P D vwCl [(t, .inr (1, [.ref t_row_a, .ref t_count_a])), (t_row_a, .inl (cI, 1440, .inl t_row)), (t_count_a, .inl (cI, 10, .inl t_count))] H := hP
        have hD : va_D A [(t, .inr (1, [.ref t_row_a, .ref t_count_a])), (t_row_a, .inl (cI, 1440, .inl t_row)), (t_count_a, .inl (cI, 10, .inl t_count))] := hD
        refine lv_icmp_ge (tgt := 76) hx hb dX1_nth_60 (by decide) (fun hc => ?_) (fun hc => ?_)
        · have hm := if_t hc hm
          refine lv_iload_n hx hb dX1_nth_76 rfl (lv_at hl 2 rfl) ?_
          refine lv_iload hx hb dX1_nth_77 (lv_at hl 0 rfl) ?_
          obtain ⟨z3, hz3, hm⟩ := bd_at hm
          refine k_callS (As := [.int v1]) (rest := [.int y3]) (wr := [(t, .inr (1, [.ref t_row_a, .ref t_count_a])), (t_row_a, .inl (cI, 1440, .inl t_row)), (t_count_a, .inl (cI, 10, .inl t_count))]) (ws1 := [(t, .inr (1, [.ref t_row_a, .ref t_count_a])), (t_row_a, .inl (cI, 1440, .inl t_row)), (t_count_a, .inl (cI, 10, .inl t_count))]) [] [0, 1, 2] [0, 1, 2] (K_Integer_bitCount_0f7a4 l D cB cI cZ cJ v1 z3 hz3) ms_J6_bitCount_0f7a4 km_X1_32 hx hb hml hown hts hK hP hD hS hA hl.1 ⟨Nat.zero_le _, Nat.zero_le _⟩ dX1_nth_79 rfl rfl (Nat.le_of_ble_eq_true rfl) ⟨⟨rfl, rfl⟩, Nat.le_of_ble_eq_true rfl, Nat.le_of_ble_eq_true rfl⟩ rfl rfl (by decide) rfl (fun H locs hP hD hS => ?_)
          have hP : va_P D vwCl [(t, .inr (1, [.ref t_row_a, .ref t_count_a])), (t_row_a, .inl (cI, 1440, .inl t_row)), (t_count_a, .inl (cI, 10, .inl t_count))] H := hP
          have hD : va_D A [(t, .inr (1, [.ref t_row_a, .ref t_count_a])), (t_row_a, .inl (cI, 1440, .inl t_row)), (t_count_a, .inl (cI, 10, .inl t_count))] := hD
          refine lv_isub hx hb dX1_nth_82 ?_
          refine lv_topi (fun v4 ev4 => ?_)
          have hm := lt_at ev4 hm
          refine lv_istore_n (lv' := [(3, .int v4), (5, .int v1), (4, .int y4), (0, .ref t), (1, .int w1)]) hx hb dX1_nth_83 rfl hl (by decide) rfl (fun ls hl => ?_)
          obtain ⟨v5, ev5⟩ : ∃ y : Int32, y = y4 + (1 : Int32) := ⟨_, rfl⟩
          have hm := lt_at ev5 hm
          refine lv_iinc (v := v5) (lv' := [(4, .int v5), (3, .int v4), (5, .int v1), (0, .ref t), (1, .int w1)]) hx hb dX1_nth_84 hl (k := 2) rfl (by rw [ev5]; rfl) (by decide) rfl (fun ls hl => ?_)
          refine lv_goto (tgt := 31) hx hb dX1_nth_87 (by decide) ?_
          exact ih v5 v4 z hm hE hR H locs ls hP hD hS (lv_sub hl [0, 1, 3, 4] rfl)
        · have hm := if_f hc hm
          refine lv_iload hx hb dX1_nth_63 (lv_at hl 1 rfl) ?_
          refine lv_bipush (v := (12 : Int32)) hx hb dX1_nth_65 (by decide) ?_
          refine lv_imul hx hb dX1_nth_67 ?_
          refine lv_iload hx hb dX1_nth_68 (lv_at hl 0 rfl) ?_
          refine lv_iload_n hx hb dX1_nth_70 rfl (lv_at hl 2 rfl) ?_
          obtain ⟨z6, hz6, hm⟩ := bd_at hm
          refine k_callS (As := [.int v1, .int y3]) (rest := [.int (y4 * (12 : Int32))]) (wr := [(t, .inr (1, [.ref t_row_a, .ref t_count_a])), (t_row_a, .inl (cI, 1440, .inl t_row)), (t_count_a, .inl (cI, 10, .inl t_count))]) (ws1 := [(t, .inr (1, [.ref t_row_a, .ref t_count_a])), (t_row_a, .inl (cI, 1440, .inl t_row)), (t_count_a, .inl (cI, 10, .inl t_count))]) [] [0, 1, 2] [0, 1, 2] (K_FactSet_nthBit l D cB cI cZ cJ v1 y3 F z6 hz6) ms_X1_nthBit km_X1_38 hx hb hml hown hts hK hP hD hS hA hl.1 ⟨Nat.zero_le _, Nat.zero_le _⟩ dX1_nth_71 rfl rfl (Nat.le_of_ble_eq_true rfl) ⟨⟨rfl, rfl⟩, Nat.le_of_ble_eq_true rfl, Nat.le_of_ble_eq_true rfl⟩ rfl rfl (by decide) rfl (fun H locs hP hD hS => ?_)
          have hP : va_P D vwCl [(t, .inr (1, [.ref t_row_a, .ref t_count_a])), (t_row_a, .inl (cI, 1440, .inl t_row)), (t_count_a, .inl (cI, 10, .inl t_count))] H := hP
          have hD : va_D A [(t, .inr (1, [.ref t_row_a, .ref t_count_a])), (t_row_a, .inl (cI, 1440, .inl t_row)), (t_count_a, .inl (cI, 10, .inl t_count))] := hD
          refine lv_iadd hx hb dX1_nth_74 ?_
          have ho := hR _ (Option.some.inj hm).symm
          exact k_iret hx hb hr hlocks hK hP hD hS dX1_nth_75 hQ (by rw [← ho]) rfl
  unfold M_FactSet_nth at hm
  obtain ⟨H, eH⟩ : ∃ H, H = s.heap := ⟨_, rfl⟩
  obtain ⟨locs, el⟩ : ∃ x : List Loc, x = [] := ⟨_, rfl⟩
  have hP : va_P D vwCl [(t, .inr (1, [.ref t_row_a, .ref t_count_a])), (t_row_a, .inl (cI, 1440, .inl t_row)), (t_count_a, .inl (cI, 10, .inl t_count))] H := eH ▸ hP
  have hS : va_S A s.heap H locs := by rw [eH, el]; exact hS
  suffices hW : W p l e { frames := 1, cells := 0, slots := 0, locals := 23 } s m args below meth c H locs 0 0 Q (F0 m 0 ls []) by rw [eH, el] at hW; exact hW
  clear eH el
  refine lv_iload_n hx hb dX1_nth_0 rfl (lv_at hl 1 rfl) ?_
  refine lv_if_lt (tgt := 24) hx hb dX1_nth_1 (by decide) (fun hc => ?_) (fun hc => ?_)
  · have hm := if_t hc hm
    refine lv_iconst (v := (-1 : Int32)) hx hb dX1_nth_24 (by decide) ?_
    have ho := Option.some.inj hm
    exact k_iret hx hb hr hlocks hK hP hD hS dX1_nth_25 hQ (by rw [← ho]) rfl
  · have hm := if_f hc hm
    refine lv_iload_n hx hb dX1_nth_4 rfl (lv_at hl 1 rfl) ?_
    refine lv_bipush (v := (10 : Int32)) hx hb dX1_nth_5 (by decide) ?_
    refine lv_icmp_ge (tgt := 24) hx hb dX1_nth_7 (by decide) (fun hc => ?_) (fun hc => ?_)
    · have hm := if_t hc hm
      refine lv_iconst (v := (-1 : Int32)) hx hb dX1_nth_24 (by decide) ?_
      have ho := Option.some.inj hm
      exact k_iret hx hb hr hlocks hK hP hD hS dX1_nth_25 hQ (by rw [← ho]) rfl
    · have hm := if_f hc hm
      refine lv_iload_n hx hb dX1_nth_10 rfl (lv_at hl 2 rfl) ?_
      refine lv_if_lt (tgt := 24) hx hb dX1_nth_11 (by decide) (fun hc => ?_) (fun hc => ?_)
      · have hm := if_t hc hm
        refine lv_iconst (v := (-1 : Int32)) hx hb dX1_nth_24 (by decide) ?_
        have ho := Option.some.inj hm
        exact k_iret hx hb hr hlocks hK hP hD hS dX1_nth_25 hQ (by rw [← ho]) rfl
      · have hm := if_f hc hm
        refine lv_iload_n hx hb dX1_nth_14 rfl (lv_at hl 2 rfl) ?_
        refine lv_aload_n hx hb dX1_nth_15 rfl (lv_at hl 0 rfl) ?_
        refine va_get (D := D) (ci := 1) (v := .ref t_count_a) (C := RX1) (T := TX1) (N := 2) hx hb hts in_X1 hown hK hP 0 rfl rfl 1 (by decide) (hts _ kf_X1_15) (fun _ h9 => h9) rfl dX1_nth_16 ?_
        refine lv_iload_n hx hb dX1_nth_19 rfl (lv_at hl 1 rfl) ?_
        refine va_iald hx hb hK hP 2 1 rfl rfl (gd_in hm) dX1_nth_20 ?_
        have hm := gd_go hm
        refine lv_icmp_lt (tgt := 26) hx hb dX1_nth_21 (by decide) (fun hc => ?_) (fun hc => ?_)
        · have hm := if_t hc hm
          refine lv_iload_n hx hb dX1_nth_26 rfl (lv_at hl 2 rfl) ?_
          refine lv_istore_n (lv' := [(3, .int x1), (0, .ref t), (1, .int x0), (2, .int x1)]) hx hb dX1_nth_27 rfl hl (by decide) rfl (fun ls hl => ?_)
          refine lv_iconst (v := (0 : Int32)) hx hb dX1_nth_28 (by decide) ?_
          refine lv_istore (lv' := [(4, .int (0 : Int32)), (3, .int x1), (0, .ref t), (1, .int x0), (2, .int x1)]) hx hb dX1_nth_29 hl (by decide) rfl (fun ls hl => ?_)
          obtain ⟨z7, hz7, hm⟩ := bd_at hm
          refine L31 x0 F (0 : Int32) x1 z7 hz7 (fun q8 H locs ls ez hP hD hS hl => ?_) (fun o ho => ?_) H locs ls hP hD hS (lv_sub hl [0, 1, 2, 3] rfl)
          · have hm := cs_l ez hm
            refine lv_iconst (v := (-1 : Int32)) hx hb dX1_nth_90 (by decide) ?_
            have ho := Option.some.inj hm
            exact k_iret hx hb hr hlocks hK hP hD hS dX1_nth_91 hQ (by rw [← ho]) rfl
          · have hm := cs_r ho hm
            exact Option.some.inj hm
        · have hm := if_f hc hm
          refine lv_iconst (v := (-1 : Int32)) hx hb dX1_nth_24 (by decide) ?_
          have ho := Option.some.inj hm
          exact k_iret hx hb hr hlocks hK hP hD hS dX1_nth_25 hQ (by rw [← ho]) rfl
noncomputable def M_FactSet_differences_L24 (F : Nat) (t_row : Nat → Int32) (o_row : Nat → Int32) (w2 : Int32) : Nat → Int32 → Int32 → Int32 → Option ((Int32))
  | 0, _, _, _ => none
  | n + 1, y5, y4, y3 => if y4 ≤ 0 then (some y3) else (if ((w2 + (1 : Int32)) * (144 : Int32)) ≤ y5 then (some y3) else (gd_ y5 1440 <| gd_ y5 1440 <| lt_ (((t_row y5.toNatClampNeg) ^^^ (o_row y5.toNatClampNeg))) fun v3 => bd_ (M_Integer_bitCount_0f7a4 v3) fun z4 => lt_ ((y3 + z4)) fun v5 => gd_ y5 1440 <| bd_ (M_Integer_bitCount_0f7a4 (t_row y5.toNatClampNeg)) fun z6 => gd_ y5 1440 <| bd_ (M_Integer_bitCount_0f7a4 (o_row y5.toNatClampNeg)) fun z7 => lt_ ((y4 - (z6 + z7))) fun v8 => lt_ (y5 + (1 : Int32)) fun v9 => M_FactSet_differences_L24 F t_row o_row w2 n v9 v8 v5))
noncomputable def M_FactSet_differences (F : Nat) (t_row : Nat → Int32) (t_count : Nat → Int32) (o_row : Nat → Int32) (o_count : Nat → Int32) (x1 : Int32) : Option ((Int32)) := gd_ x1 10 <| gd_ x1 10 <| lt_ (((t_count x1.toNatClampNeg) + (o_count x1.toNatClampNeg))) fun v1 => lt_ ((x1 * (144 : Int32))) fun v2 => bd_ (M_FactSet_differences_L24 F t_row o_row x1 F v2 v1 (0 : Int32)) fun z10 => some z10
set_option maxRecDepth 100000 in
set_option maxHeartbeats 4000000 in
theorem K_FactSet_differences (l : Launch) (D : va_G) (cB cI cZ cJ : ClassId) (t : Nat) (t_row_a : Nat) (t_count_a : Nat) (o : Nat) (o_row_a : Nat) (o_count_a : Nat) (t_row : Nat → Int32) (t_count : Nat → Int32) (o_row : Nat → Int32) (o_count : Nat → Int32) (x1 : Int32) (F : Nat) (out : (Int32)) (hm : M_FactSet_differences F t_row t_count o_row o_count x1 = some out) : KC l yX1_differences cX1_differences 6 (some .int) { frames := 1, cells := 0, slots := 0, locals := 20 } D (kTy cB cI cZ cJ) [.ref t, .ref o, .int x1] [(t, .inr (1, [.ref t_row_a, .ref t_count_a])), (t_row_a, .inl (cI, 1440, .inl t_row)), (t_count_a, .inl (cI, 10, .inl t_count)), (o, .inr (1, [.ref o_row_a, .ref o_count_a])), (o_row_a, .inl (cI, 1440, .inl o_row)), (o_count_a, .inl (cI, 10, .inl o_count))] (some (.int out)) [(t, .inr (1, [.ref t_row_a, .ref t_count_a])), (t_row_a, .inl (cI, 1440, .inl t_row)), (t_count_a, .inl (cI, 10, .inl t_count)), (o, .inr (1, [.ref o_row_a, .ref o_count_a])), (o_row_a, .inl (cI, 1440, .inl o_row)), (o_count_a, .inl (cI, 10, .inl o_count))] := by
  refine KC.of (by decide +kernel) (Nat.le_of_ble_eq_true rfl) ?_
  intro p e s m below meth c A ls args Q hQ CX hA hK hP hD hl
  obtain ⟨hx, hb, hr, hml, hown, hts, hlocks⟩ := CX
  have hown : s.vm.findClass RX1 = some m.cls := hown
  have hS : va_S A s.heap s.heap [] := va_S.rf
  have hl : lv_has ls 6 [(0, .ref t), (1, .ref o), (2, .int x1)] := hl
  have L24 : ∀ (w2 : Int32) (n : Nat) (y5 : Int32) (y4 : Int32) (y3 : Int32) (z : ((Int32))), M_FactSet_differences_L24 F t_row o_row w2 n y5 y4 y3 = some z →
      (∀ (H : Heap) (locs : List Loc) (ls : Array Slot), va_P D vwCl [(t, .inr (1, [.ref t_row_a, .ref t_count_a])), (t_row_a, .inl (cI, 1440, .inl t_row)), (t_count_a, .inl (cI, 10, .inl t_count)), (o, .inr (1, [.ref o_row_a, .ref o_count_a])), (o_row_a, .inl (cI, 1440, .inl o_row)), (o_count_a, .inl (cI, 10, .inl o_count))] H → va_D A [(t, .inr (1, [.ref t_row_a, .ref t_count_a])), (t_row_a, .inl (cI, 1440, .inl t_row)), (t_count_a, .inl (cI, 10, .inl t_count)), (o, .inr (1, [.ref o_row_a, .ref o_count_a])), (o_row_a, .inl (cI, 1440, .inl o_row)), (o_count_a, .inl (cI, 10, .inl o_count))] → va_S A s.heap H locs → lv_has ls 6 [(3, .int z)] → W p l e { frames := 1, cells := 0, slots := 0, locals := 20 } s m args below meth c H locs 0 0 Q (F0 m 94 ls [])) →
      ∀ (H : Heap) (locs : List Loc) (ls : Array Slot), va_P D vwCl [(t, .inr (1, [.ref t_row_a, .ref t_count_a])), (t_row_a, .inl (cI, 1440, .inl t_row)), (t_count_a, .inl (cI, 10, .inl t_count)), (o, .inr (1, [.ref o_row_a, .ref o_count_a])), (o_row_a, .inl (cI, 1440, .inl o_row)), (o_count_a, .inl (cI, 10, .inl o_count))] H → va_D A [(t, .inr (1, [.ref t_row_a, .ref t_count_a])), (t_row_a, .inl (cI, 1440, .inl t_row)), (t_count_a, .inl (cI, 10, .inl t_count)), (o, .inr (1, [.ref o_row_a, .ref o_count_a])), (o_row_a, .inl (cI, 1440, .inl o_row)), (o_count_a, .inl (cI, 10, .inl o_count))] → va_S A s.heap H locs → lv_has ls 6 [(5, .int y5), (4, .int y4), (3, .int y3), (0, .ref t), (1, .ref o), (2, .int w2)] → W p l e { frames := 1, cells := 0, slots := 0, locals := 20 } s m args below meth c H locs 0 0 Q (F0 m 24 ls []) := by
    intro w2 n
    induction n with
    | zero => intro y5 y4 y3 z hm; unfold M_FactSet_differences_L24 at hm; cases hm
    | succ n ih =>
      intro y5 y4 y3 z hm hE H locs ls hP hD hS hl
      unfold M_FactSet_differences_L24 at hm
      refine lv_iload hx hb dX1_differences_24 (lv_at hl 1 rfl) ?_
      refine lv_if_le (tgt := 94) hx hb dX1_differences_26 (by decide) (fun hc => ?_) (fun hc => ?_)
      · have hm := if_t hc hm
        cases hm
        exact hE H locs ls hP hD hS (lv_sub hl [2] rfl)
      · have hm := if_f hc hm
        refine lv_iload hx hb dX1_differences_29 (lv_at hl 0 rfl) ?_
        refine lv_iload_n hx hb dX1_differences_31 rfl (lv_at hl 5 rfl) ?_
        refine lv_iconst (v := (1 : Int32)) hx hb dX1_differences_32 (by decide) ?_
        refine lv_iadd hx hb dX1_differences_33 ?_
        refine lv_sipush (v := (144 : Int32)) hx hb dX1_differences_34 (by decide) ?_
        refine lv_imul hx hb dX1_differences_37 ?_
        refine lv_icmp_ge (tgt := 94) hx hb dX1_differences_38 (by decide) (fun hc => ?_) (fun hc => ?_)
        · have hm := if_t hc hm
          cases hm
          exact hE H locs ls hP hD hS (lv_sub hl [2] rfl)
        · have hm := if_f hc hm
          refine lv_iload_n hx hb dX1_differences_41 rfl (lv_at hl 2 rfl) ?_
          refine lv_aload_n hx hb dX1_differences_42 rfl (lv_at hl 3 rfl) ?_
          refine va_get (D := D) (ci := 1) (v := .ref t_row_a) (C := RX1) (T := TX1) (N := 2) hx hb hts in_X1 hown hK hP 0 rfl rfl 0 (by decide) (hts _ kf_X1_11) (fun _ h9 => h9) rfl dX1_differences_43 ?_
          refine lv_iload hx hb dX1_differences_46 (lv_at hl 0 rfl) ?_
          refine va_iald hx hb hK hP 1 1 rfl rfl (gd_in hm) dX1_differences_48 ?_
          have hm := gd_go hm
          refine lv_aload_n hx hb dX1_differences_49 rfl (lv_at hl 4 rfl) ?_
          refine va_get (D := D) (ci := 1) (v := .ref o_row_a) (C := RX1) (T := TX1) (N := 2) hx hb hts in_X1 hown hK hP 3 rfl rfl 0 (by decide) (hts _ kf_X1_11) (fun _ h9 => h9) rfl dX1_differences_50 ?_
          refine lv_iload hx hb dX1_differences_53 (lv_at hl 0 rfl) ?_
          refine va_iald hx hb hK hP 4 1 rfl rfl (gd_in hm) dX1_differences_55 ?_
          have hm := gd_go hm
          refine lv_ixor hx hb dX1_differences_56 ?_
          refine lv_topi (fun v3 ev3 => ?_)
          have hm := lt_at ev3 hm
          obtain ⟨z4, hz4, hm⟩ := bd_at hm
          refine k_callS (As := [.int v3]) (rest := [.int y3]) (wr := [(t, .inr (1, [.ref t_row_a, .ref t_count_a])), (t_row_a, .inl (cI, 1440, .inl t_row)), (t_count_a, .inl (cI, 10, .inl t_count)), (o, .inr (1, [.ref o_row_a, .ref o_count_a])), (o_row_a, .inl (cI, 1440, .inl o_row)), (o_count_a, .inl (cI, 10, .inl o_count))]) (ws1 := [(t, .inr (1, [.ref t_row_a, .ref t_count_a])), (t_row_a, .inl (cI, 1440, .inl t_row)), (t_count_a, .inl (cI, 10, .inl t_count)), (o, .inr (1, [.ref o_row_a, .ref o_count_a])), (o_row_a, .inl (cI, 1440, .inl o_row)), (o_count_a, .inl (cI, 10, .inl o_count))]) [] [0, 1, 2, 3, 4, 5] [0, 1, 2, 3, 4, 5] (K_Integer_bitCount_0f7a4 l D cB cI cZ cJ v3 z4 hz4) ms_J6_bitCount_0f7a4 km_X1_32 hx hb hml hown hts hK hP hD hS hA hl.1 ⟨Nat.zero_le _, Nat.zero_le _⟩ dX1_differences_57 rfl rfl (Nat.le_of_ble_eq_true rfl) ⟨⟨rfl, rfl⟩, Nat.le_of_ble_eq_true rfl, Nat.le_of_ble_eq_true rfl⟩ rfl rfl (by decide) rfl (fun H locs hP hD hS => ?_)
          have hP : va_P D vwCl [(t, .inr (1, [.ref t_row_a, .ref t_count_a])), (t_row_a, .inl (cI, 1440, .inl t_row)), (t_count_a, .inl (cI, 10, .inl t_count)), (o, .inr (1, [.ref o_row_a, .ref o_count_a])), (o_row_a, .inl (cI, 1440, .inl o_row)), (o_count_a, .inl (cI, 10, .inl o_count))] H := hP
          have hD : va_D A [(t, .inr (1, [.ref t_row_a, .ref t_count_a])), (t_row_a, .inl (cI, 1440, .inl t_row)), (t_count_a, .inl (cI, 10, .inl t_count)), (o, .inr (1, [.ref o_row_a, .ref o_count_a])), (o_row_a, .inl (cI, 1440, .inl o_row)), (o_count_a, .inl (cI, 10, .inl o_count))] := hD
          refine lv_iadd hx hb dX1_differences_60 ?_
          refine lv_topi (fun v5 ev5 => ?_)
          have hm := lt_at ev5 hm
          refine lv_istore_n (lv' := [(3, .int v5), (5, .int y5), (4, .int y4), (0, .ref t), (1, .ref o), (2, .int w2)]) hx hb dX1_differences_61 rfl hl (by decide) rfl (fun ls hl => ?_)
          refine lv_iload hx hb dX1_differences_62 (lv_at hl 2 rfl) ?_
          refine lv_aload_n hx hb dX1_differences_64 rfl (lv_at hl 3 rfl) ?_
          refine va_get (D := D) (ci := 1) (v := .ref t_row_a) (C := RX1) (T := TX1) (N := 2) hx hb hts in_X1 hown hK hP 0 rfl rfl 0 (by decide) (hts _ kf_X1_11) (fun _ h9 => h9) rfl dX1_differences_65 ?_
          refine lv_iload hx hb dX1_differences_68 (lv_at hl 1 rfl) ?_
          refine va_iald hx hb hK hP 1 1 rfl rfl (gd_in hm) dX1_differences_70 ?_
          have hm := gd_go hm
          obtain ⟨z6, hz6, hm⟩ := bd_at hm
          refine k_callS (As := [.int (t_row y5.toNatClampNeg)]) (rest := [.int y4]) (wr := [(t, .inr (1, [.ref t_row_a, .ref t_count_a])), (t_row_a, .inl (cI, 1440, .inl t_row)), (t_count_a, .inl (cI, 10, .inl t_count)), (o, .inr (1, [.ref o_row_a, .ref o_count_a])), (o_row_a, .inl (cI, 1440, .inl o_row)), (o_count_a, .inl (cI, 10, .inl o_count))]) (ws1 := [(t, .inr (1, [.ref t_row_a, .ref t_count_a])), (t_row_a, .inl (cI, 1440, .inl t_row)), (t_count_a, .inl (cI, 10, .inl t_count)), (o, .inr (1, [.ref o_row_a, .ref o_count_a])), (o_row_a, .inl (cI, 1440, .inl o_row)), (o_count_a, .inl (cI, 10, .inl o_count))]) [] [0, 1, 2, 3, 4, 5] [0, 1, 2, 3, 4, 5] (K_Integer_bitCount_0f7a4 l D cB cI cZ cJ (t_row y5.toNatClampNeg) z6 hz6) ms_J6_bitCount_0f7a4 km_X1_32 hx hb hml hown hts hK hP hD hS hA hl.1 ⟨Nat.zero_le _, Nat.zero_le _⟩ dX1_differences_71 rfl rfl (Nat.le_of_ble_eq_true rfl) ⟨⟨rfl, rfl⟩, Nat.le_of_ble_eq_true rfl, Nat.le_of_ble_eq_true rfl⟩ rfl rfl (by decide) rfl (fun H locs hP hD hS => ?_)
          have hP : va_P D vwCl [(t, .inr (1, [.ref t_row_a, .ref t_count_a])), (t_row_a, .inl (cI, 1440, .inl t_row)), (t_count_a, .inl (cI, 10, .inl t_count)), (o, .inr (1, [.ref o_row_a, .ref o_count_a])), (o_row_a, .inl (cI, 1440, .inl o_row)), (o_count_a, .inl (cI, 10, .inl o_count))] H := hP
          have hD : va_D A [(t, .inr (1, [.ref t_row_a, .ref t_count_a])), (t_row_a, .inl (cI, 1440, .inl t_row)), (t_count_a, .inl (cI, 10, .inl t_count)), (o, .inr (1, [.ref o_row_a, .ref o_count_a])), (o_row_a, .inl (cI, 1440, .inl o_row)), (o_count_a, .inl (cI, 10, .inl o_count))] := hD
          refine lv_aload_n hx hb dX1_differences_74 rfl (lv_at hl 4 rfl) ?_
          refine va_get (D := D) (ci := 1) (v := .ref o_row_a) (C := RX1) (T := TX1) (N := 2) hx hb hts in_X1 hown hK hP 3 rfl rfl 0 (by decide) (hts _ kf_X1_11) (fun _ h9 => h9) rfl dX1_differences_75 ?_
          refine lv_iload hx hb dX1_differences_78 (lv_at hl 1 rfl) ?_
          refine va_iald hx hb hK hP 4 1 rfl rfl (gd_in hm) dX1_differences_80 ?_
          have hm := gd_go hm
          obtain ⟨z7, hz7, hm⟩ := bd_at hm
          refine k_callS (As := [.int (o_row y5.toNatClampNeg)]) (rest := [.int z6, .int y4]) (wr := [(t, .inr (1, [.ref t_row_a, .ref t_count_a])), (t_row_a, .inl (cI, 1440, .inl t_row)), (t_count_a, .inl (cI, 10, .inl t_count)), (o, .inr (1, [.ref o_row_a, .ref o_count_a])), (o_row_a, .inl (cI, 1440, .inl o_row)), (o_count_a, .inl (cI, 10, .inl o_count))]) (ws1 := [(t, .inr (1, [.ref t_row_a, .ref t_count_a])), (t_row_a, .inl (cI, 1440, .inl t_row)), (t_count_a, .inl (cI, 10, .inl t_count)), (o, .inr (1, [.ref o_row_a, .ref o_count_a])), (o_row_a, .inl (cI, 1440, .inl o_row)), (o_count_a, .inl (cI, 10, .inl o_count))]) [] [0, 1, 2, 3, 4, 5] [0, 1, 2, 3, 4, 5] (K_Integer_bitCount_0f7a4 l D cB cI cZ cJ (o_row y5.toNatClampNeg) z7 hz7) ms_J6_bitCount_0f7a4 km_X1_32 hx hb hml hown hts hK hP hD hS hA hl.1 ⟨Nat.zero_le _, Nat.zero_le _⟩ dX1_differences_81 rfl rfl (Nat.le_of_ble_eq_true rfl) ⟨⟨rfl, rfl⟩, Nat.le_of_ble_eq_true rfl, Nat.le_of_ble_eq_true rfl⟩ rfl rfl (by decide) rfl (fun H locs hP hD hS => ?_)
          have hP : va_P D vwCl [(t, .inr (1, [.ref t_row_a, .ref t_count_a])), (t_row_a, .inl (cI, 1440, .inl t_row)), (t_count_a, .inl (cI, 10, .inl t_count)), (o, .inr (1, [.ref o_row_a, .ref o_count_a])), (o_row_a, .inl (cI, 1440, .inl o_row)), (o_count_a, .inl (cI, 10, .inl o_count))] H := hP
          have hD : va_D A [(t, .inr (1, [.ref t_row_a, .ref t_count_a])), (t_row_a, .inl (cI, 1440, .inl t_row)), (t_count_a, .inl (cI, 10, .inl t_count)), (o, .inr (1, [.ref o_row_a, .ref o_count_a])), (o_row_a, .inl (cI, 1440, .inl o_row)), (o_count_a, .inl (cI, 10, .inl o_count))] := hD
          refine lv_iadd hx hb dX1_differences_84 ?_
          refine lv_isub hx hb dX1_differences_85 ?_
          refine lv_topi (fun v8 ev8 => ?_)
          have hm := lt_at ev8 hm
          refine lv_istore (lv' := [(4, .int v8), (3, .int v5), (5, .int y5), (0, .ref t), (1, .ref o), (2, .int w2)]) hx hb dX1_differences_86 hl (by decide) rfl (fun ls hl => ?_)
          obtain ⟨v9, ev9⟩ : ∃ y : Int32, y = y5 + (1 : Int32) := ⟨_, rfl⟩
          have hm := lt_at ev9 hm
          refine lv_iinc (v := v9) (lv' := [(5, .int v9), (4, .int v8), (3, .int v5), (0, .ref t), (1, .ref o), (2, .int w2)]) hx hb dX1_differences_88 hl (k := 2) rfl (by rw [ev9]; rfl) (by decide) rfl (fun ls hl => ?_)
          refine lv_goto (tgt := 24) hx hb dX1_differences_91 (by decide) ?_
          exact ih v9 v8 v5 z hm hE H locs ls hP hD hS (lv_sub hl [0, 1, 2, 3, 4, 5] rfl)
  unfold M_FactSet_differences at hm
  obtain ⟨H, eH⟩ : ∃ H, H = s.heap := ⟨_, rfl⟩
  obtain ⟨locs, el⟩ : ∃ x : List Loc, x = [] := ⟨_, rfl⟩
  have hP : va_P D vwCl [(t, .inr (1, [.ref t_row_a, .ref t_count_a])), (t_row_a, .inl (cI, 1440, .inl t_row)), (t_count_a, .inl (cI, 10, .inl t_count)), (o, .inr (1, [.ref o_row_a, .ref o_count_a])), (o_row_a, .inl (cI, 1440, .inl o_row)), (o_count_a, .inl (cI, 10, .inl o_count))] H := eH ▸ hP
  have hS : va_S A s.heap H locs := by rw [eH, el]; exact hS
  suffices hW : W p l e { frames := 1, cells := 0, slots := 0, locals := 20 } s m args below meth c H locs 0 0 Q (F0 m 0 ls []) by rw [eH, el] at hW; exact hW
  clear eH el
  refine lv_iconst (v := (0 : Int32)) hx hb dX1_differences_0 (by decide) ?_
  refine lv_istore_n (lv' := [(3, .int (0 : Int32)), (0, .ref t), (1, .ref o), (2, .int x1)]) hx hb dX1_differences_1 rfl hl (by decide) rfl (fun ls hl => ?_)
  refine lv_aload_n hx hb dX1_differences_2 rfl (lv_at hl 1 rfl) ?_
  refine va_get (D := D) (ci := 1) (v := .ref t_count_a) (C := RX1) (T := TX1) (N := 2) hx hb hts in_X1 hown hK hP 0 rfl rfl 1 (by decide) (hts _ kf_X1_15) (fun _ h9 => h9) rfl dX1_differences_3 ?_
  refine lv_iload_n hx hb dX1_differences_6 rfl (lv_at hl 3 rfl) ?_
  refine va_iald hx hb hK hP 2 1 rfl rfl (gd_in hm) dX1_differences_7 ?_
  have hm := gd_go hm
  refine lv_aload_n hx hb dX1_differences_8 rfl (lv_at hl 2 rfl) ?_
  refine va_get (D := D) (ci := 1) (v := .ref o_count_a) (C := RX1) (T := TX1) (N := 2) hx hb hts in_X1 hown hK hP 3 rfl rfl 1 (by decide) (hts _ kf_X1_15) (fun _ h9 => h9) rfl dX1_differences_9 ?_
  refine lv_iload_n hx hb dX1_differences_12 rfl (lv_at hl 3 rfl) ?_
  refine va_iald hx hb hK hP 5 1 rfl rfl (gd_in hm) dX1_differences_13 ?_
  have hm := gd_go hm
  refine lv_iadd hx hb dX1_differences_14 ?_
  refine lv_topi (fun v1 ev1 => ?_)
  have hm := lt_at ev1 hm
  refine lv_istore (lv' := [(4, .int v1), (3, .int (0 : Int32)), (0, .ref t), (1, .ref o), (2, .int x1)]) hx hb dX1_differences_15 hl (by decide) rfl (fun ls hl => ?_)
  refine lv_iload_n hx hb dX1_differences_17 rfl (lv_at hl 4 rfl) ?_
  refine lv_sipush (v := (144 : Int32)) hx hb dX1_differences_18 (by decide) ?_
  refine lv_imul hx hb dX1_differences_21 ?_
  refine lv_topi (fun v2 ev2 => ?_)
  have hm := lt_at ev2 hm
  refine lv_istore (lv' := [(5, .int v2), (4, .int v1), (3, .int (0 : Int32)), (0, .ref t), (1, .ref o), (2, .int x1)]) hx hb dX1_differences_22 hl (by decide) rfl (fun ls hl => ?_)
  obtain ⟨z10, hz10, hm⟩ := bd_at hm
  refine L24 x1 F v2 v1 (0 : Int32) z10 hz10 (fun H locs ls hP hD hS hl => ?_) H locs ls hP hD hS (lv_sub hl [0, 1, 2, 3, 4, 5] rfl)
  refine lv_iload_n hx hb dX1_differences_94 rfl (lv_at hl 0 rfl) ?_
  have ho := Option.some.inj hm
  exact k_iret hx hb hr hlocks hK hP hD hS dX1_differences_95 hQ (by rw [← ho]) rfl
noncomputable def M_FactSet_nthDifference_L6 (F : Nat) (t_row : Nat → Int32) (o_row : Nat → Int32) (w2 : Int32) : Nat → Int32 → Int32 → Option ((Unit) ⊕ ((Int32)))
  | 0, _, _ => none
  | n + 1, y5, y4 => if (144 : Int32) ≤ y5 then (some (.inl ())) else (gd_ ((w2 * (144 : Int32)) + y5) 1440 <| lt_ ((t_row ((w2 * (144 : Int32)) + y5).toNatClampNeg)) fun v1 => gd_ ((w2 * (144 : Int32)) + y5) 1440 <| lt_ ((o_row ((w2 * (144 : Int32)) + y5).toNatClampNeg)) fun v2 => lt_ ((v1 ^^^ v2)) fun v3 => bd_ (M_Integer_bitCount_0f7a4 v3) fun z4 => if z4 ≤ y4 then (bd_ (M_Integer_bitCount_0f7a4 v3) fun z5 => lt_ ((y4 - z5)) fun v6 => lt_ (y5 + (1 : Int32)) fun v7 => M_FactSet_nthDifference_L6 F t_row o_row w2 n v7 v6) else (bd_ (M_FactSet_nthBit F v3 y4) fun z8 => some (.inr ((y5 * (12 : Int32)) + z8))))
noncomputable def M_FactSet_nthDifference (F : Nat) (t_row : Nat → Int32) (o_row : Nat → Int32) (x1 : Int32) (x2 : Int32) : Option ((Int32)) := bd_ (M_FactSet_nthDifference_L6 F t_row o_row x1 F (0 : Int32) x2) fun z9 => cs_ z9 (fun q10 => some (-1 : Int32)) (fun o => some o)
set_option maxRecDepth 100000 in
set_option maxHeartbeats 4000000 in
theorem K_FactSet_nthDifference (l : Launch) (D : va_G) (cB cI cZ cJ : ClassId) (t : Nat) (t_row_a : Nat) (t_count_a : Nat) (o : Nat) (o_row_a : Nat) (o_count_a : Nat) (t_row : Nat → Int32) (o_row : Nat → Int32) (x1 : Int32) (x2 : Int32) (F : Nat) (out : (Int32)) (hm : M_FactSet_nthDifference F t_row o_row x1 x2 = some out) : KC l yX1_nthDifference cX1_nthDifference 7 (some .int) { frames := 1, cells := 0, slots := 0, locals := 23 } D (kTy cB cI cZ cJ) [.ref t, .ref o, .int x1, .int x2] [(t, .inr (1, [.ref t_row_a, .ref t_count_a])), (t_row_a, .inl (cI, 1440, .inl t_row)), (o, .inr (1, [.ref o_row_a, .ref o_count_a])), (o_row_a, .inl (cI, 1440, .inl o_row))] (some (.int out)) [(t, .inr (1, [.ref t_row_a, .ref t_count_a])), (t_row_a, .inl (cI, 1440, .inl t_row)), (o, .inr (1, [.ref o_row_a, .ref o_count_a])), (o_row_a, .inl (cI, 1440, .inl o_row))] := by
  refine KC.of (by decide +kernel) (Nat.le_of_ble_eq_true rfl) ?_
  intro p e s m below meth c A ls args Q hQ CX hA hK hP hD hl
  obtain ⟨hx, hb, hr, hml, hown, hts, hlocks⟩ := CX
  have hown : s.vm.findClass RX1 = some m.cls := hown
  have hS : va_S A s.heap s.heap [] := va_S.rf
  have hl : lv_has ls 7 [(0, .ref t), (1, .ref o), (2, .int x1), (3, .int x2)] := hl
  have L6 : ∀ (w2 : Int32) (n : Nat) (y5 : Int32) (y4 : Int32) (z : ((Unit) ⊕ ((Int32)))), M_FactSet_nthDifference_L6 F t_row o_row w2 n y5 y4 = some z →
      (∀ (q : Unit) (H : Heap) (locs : List Loc) (ls : Array Slot), z = .inl q → va_P D vwCl [(t, .inr (1, [.ref t_row_a, .ref t_count_a])), (t_row_a, .inl (cI, 1440, .inl t_row)), (o, .inr (1, [.ref o_row_a, .ref o_count_a])), (o_row_a, .inl (cI, 1440, .inl o_row))] H → va_D A [(t, .inr (1, [.ref t_row_a, .ref t_count_a])), (t_row_a, .inl (cI, 1440, .inl t_row)), (o, .inr (1, [.ref o_row_a, .ref o_count_a])), (o_row_a, .inl (cI, 1440, .inl o_row))] → va_S A s.heap H locs → lv_has ls 7 [] → W p l e { frames := 1, cells := 0, slots := 0, locals := 23 } s m args below meth c H locs 0 0 Q (F0 m 83 ls [])) →
      (∀ o, z = .inr o → o = out) →
      ∀ (H : Heap) (locs : List Loc) (ls : Array Slot), va_P D vwCl [(t, .inr (1, [.ref t_row_a, .ref t_count_a])), (t_row_a, .inl (cI, 1440, .inl t_row)), (o, .inr (1, [.ref o_row_a, .ref o_count_a])), (o_row_a, .inl (cI, 1440, .inl o_row))] H → va_D A [(t, .inr (1, [.ref t_row_a, .ref t_count_a])), (t_row_a, .inl (cI, 1440, .inl t_row)), (o, .inr (1, [.ref o_row_a, .ref o_count_a])), (o_row_a, .inl (cI, 1440, .inl o_row))] → va_S A s.heap H locs → lv_has ls 7 [(5, .int y5), (4, .int y4), (0, .ref t), (1, .ref o), (2, .int w2)] → W p l e { frames := 1, cells := 0, slots := 0, locals := 23 } s m args below meth c H locs 0 0 Q (F0 m 6 ls []) := by
    intro w2 n
    induction n with
    | zero => intro y5 y4 z hm; unfold M_FactSet_nthDifference_L6 at hm; cases hm
    | succ n ih =>
      intro y5 y4 z hm hE hR H locs ls hP hD hS hl
      unfold M_FactSet_nthDifference_L6 at hm
      refine lv_iload hx hb dX1_nthDifference_6 (lv_at hl 0 rfl) ?_
      refine lv_sipush (v := (144 : Int32)) hx hb dX1_nthDifference_8 (by decide) ?_
      refine lv_icmp_ge (tgt := 83) hx hb dX1_nthDifference_11 (by decide) (fun hc => ?_) (fun hc => ?_)
      · have hm := if_t hc hm
        exact hE _ H locs ls (Option.some.inj hm).symm hP hD hS (lv_sub hl [] rfl)
      · have hm := if_f hc hm
        refine lv_aload_n hx hb dX1_nthDifference_14 rfl (lv_at hl 2 rfl) ?_
        refine va_get (D := D) (ci := 1) (v := .ref t_row_a) (C := RX1) (T := TX1) (N := 2) hx hb hts in_X1 hown hK hP 0 rfl rfl 0 (by decide) (hts _ kf_X1_11) (fun _ h9 => h9) rfl dX1_nthDifference_15 ?_
        refine lv_iload_n hx hb dX1_nthDifference_18 rfl (lv_at hl 4 rfl) ?_
        refine lv_sipush (v := (144 : Int32)) hx hb dX1_nthDifference_19 (by decide) ?_
        refine lv_imul hx hb dX1_nthDifference_22 ?_
        refine lv_iload hx hb dX1_nthDifference_23 (lv_at hl 0 rfl) ?_
        refine lv_iadd hx hb dX1_nthDifference_25 ?_
        refine va_iald hx hb hK hP 1 1 rfl rfl (gd_in hm) dX1_nthDifference_26 ?_
        have hm := gd_go hm
        refine lv_topi (fun v1 ev1 => ?_)
        have hm := lt_at ev1 hm
        refine lv_aload_n hx hb dX1_nthDifference_27 rfl (lv_at hl 3 rfl) ?_
        refine va_get (D := D) (ci := 1) (v := .ref o_row_a) (C := RX1) (T := TX1) (N := 2) hx hb hts in_X1 hown hK hP 2 rfl rfl 0 (by decide) (hts _ kf_X1_11) (fun _ h9 => h9) rfl dX1_nthDifference_28 ?_
        refine lv_iload_n hx hb dX1_nthDifference_31 rfl (lv_at hl 4 rfl) ?_
        refine lv_sipush (v := (144 : Int32)) hx hb dX1_nthDifference_32 (by decide) ?_
        refine lv_imul hx hb dX1_nthDifference_35 ?_
        refine lv_iload hx hb dX1_nthDifference_36 (lv_at hl 0 rfl) ?_
        refine lv_iadd hx hb dX1_nthDifference_38 ?_
        refine va_iald hx hb hK hP 3 1 rfl rfl (gd_in hm) dX1_nthDifference_39 ?_
        have hm := gd_go hm
        refine lv_topi (fun v2 ev2 => ?_)
        have hm := lt_at ev2 hm
        refine lv_ixor hx hb dX1_nthDifference_40 ?_
        refine lv_topi (fun v3 ev3 => ?_)
        have hm := lt_at ev3 hm
        refine lv_istore (lv' := [(6, .int v3), (5, .int y5), (4, .int y4), (0, .ref t), (1, .ref o), (2, .int w2)]) hx hb dX1_nthDifference_41 hl (by decide) rfl (fun ls hl => ?_)
        refine lv_iload hx hb dX1_nthDifference_43 (lv_at hl 2 rfl) ?_
        refine lv_iload hx hb dX1_nthDifference_45 (lv_at hl 0 rfl) ?_
        obtain ⟨z4, hz4, hm⟩ := bd_at hm
        refine k_callS (As := [.int v3]) (rest := [.int y4]) (wr := [(t, .inr (1, [.ref t_row_a, .ref t_count_a])), (t_row_a, .inl (cI, 1440, .inl t_row)), (o, .inr (1, [.ref o_row_a, .ref o_count_a])), (o_row_a, .inl (cI, 1440, .inl o_row))]) (ws1 := [(t, .inr (1, [.ref t_row_a, .ref t_count_a])), (t_row_a, .inl (cI, 1440, .inl t_row)), (o, .inr (1, [.ref o_row_a, .ref o_count_a])), (o_row_a, .inl (cI, 1440, .inl o_row))]) [] [0, 1, 2, 3] [0, 1, 2, 3] (K_Integer_bitCount_0f7a4 l D cB cI cZ cJ v3 z4 hz4) ms_J6_bitCount_0f7a4 km_X1_32 hx hb hml hown hts hK hP hD hS hA hl.1 ⟨Nat.zero_le _, Nat.zero_le _⟩ dX1_nthDifference_47 rfl rfl (Nat.le_of_ble_eq_true rfl) ⟨⟨rfl, rfl⟩, Nat.le_of_ble_eq_true rfl, Nat.le_of_ble_eq_true rfl⟩ rfl rfl (by decide) rfl (fun H locs hP hD hS => ?_)
        have hP : va_P D vwCl [(t, .inr (1, [.ref t_row_a, .ref t_count_a])), (t_row_a, .inl (cI, 1440, .inl t_row)), (o, .inr (1, [.ref o_row_a, .ref o_count_a])), (o_row_a, .inl (cI, 1440, .inl o_row))] H := hP
        have hD : va_D A [(t, .inr (1, [.ref t_row_a, .ref t_count_a])), (t_row_a, .inl (cI, 1440, .inl t_row)), (o, .inr (1, [.ref o_row_a, .ref o_count_a])), (o_row_a, .inl (cI, 1440, .inl o_row))] := hD
        refine lv_icmp_ge (tgt := 67) hx hb dX1_nthDifference_50 (by decide) (fun hc => ?_) (fun hc => ?_)
        · have hm := if_t hc hm
          refine lv_iload hx hb dX1_nthDifference_67 (lv_at hl 2 rfl) ?_
          refine lv_iload hx hb dX1_nthDifference_69 (lv_at hl 0 rfl) ?_
          obtain ⟨z5, hz5, hm⟩ := bd_at hm
          refine k_callS (As := [.int v3]) (rest := [.int y4]) (wr := [(t, .inr (1, [.ref t_row_a, .ref t_count_a])), (t_row_a, .inl (cI, 1440, .inl t_row)), (o, .inr (1, [.ref o_row_a, .ref o_count_a])), (o_row_a, .inl (cI, 1440, .inl o_row))]) (ws1 := [(t, .inr (1, [.ref t_row_a, .ref t_count_a])), (t_row_a, .inl (cI, 1440, .inl t_row)), (o, .inr (1, [.ref o_row_a, .ref o_count_a])), (o_row_a, .inl (cI, 1440, .inl o_row))]) [] [0, 1, 2, 3] [0, 1, 2, 3] (K_Integer_bitCount_0f7a4 l D cB cI cZ cJ v3 z5 hz5) ms_J6_bitCount_0f7a4 km_X1_32 hx hb hml hown hts hK hP hD hS hA hl.1 ⟨Nat.zero_le _, Nat.zero_le _⟩ dX1_nthDifference_71 rfl rfl (Nat.le_of_ble_eq_true rfl) ⟨⟨rfl, rfl⟩, Nat.le_of_ble_eq_true rfl, Nat.le_of_ble_eq_true rfl⟩ rfl rfl (by decide) rfl (fun H locs hP hD hS => ?_)
          have hP : va_P D vwCl [(t, .inr (1, [.ref t_row_a, .ref t_count_a])), (t_row_a, .inl (cI, 1440, .inl t_row)), (o, .inr (1, [.ref o_row_a, .ref o_count_a])), (o_row_a, .inl (cI, 1440, .inl o_row))] H := hP
          have hD : va_D A [(t, .inr (1, [.ref t_row_a, .ref t_count_a])), (t_row_a, .inl (cI, 1440, .inl t_row)), (o, .inr (1, [.ref o_row_a, .ref o_count_a])), (o_row_a, .inl (cI, 1440, .inl o_row))] := hD
          refine lv_isub hx hb dX1_nthDifference_74 ?_
          refine lv_topi (fun v6 ev6 => ?_)
          have hm := lt_at ev6 hm
          refine lv_istore (lv' := [(4, .int v6), (6, .int v3), (5, .int y5), (0, .ref t), (1, .ref o), (2, .int w2)]) hx hb dX1_nthDifference_75 hl (by decide) rfl (fun ls hl => ?_)
          obtain ⟨v7, ev7⟩ : ∃ y : Int32, y = y5 + (1 : Int32) := ⟨_, rfl⟩
          have hm := lt_at ev7 hm
          refine lv_iinc (v := v7) (lv' := [(5, .int v7), (4, .int v6), (6, .int v3), (0, .ref t), (1, .ref o), (2, .int w2)]) hx hb dX1_nthDifference_77 hl (k := 2) rfl (by rw [ev7]; rfl) (by decide) rfl (fun ls hl => ?_)
          refine lv_goto (tgt := 6) hx hb dX1_nthDifference_80 (by decide) ?_
          exact ih v7 v6 z hm hE hR H locs ls hP hD hS (lv_sub hl [0, 1, 3, 4, 5] rfl)
        · have hm := if_f hc hm
          refine lv_iload hx hb dX1_nthDifference_53 (lv_at hl 1 rfl) ?_
          refine lv_bipush (v := (12 : Int32)) hx hb dX1_nthDifference_55 (by decide) ?_
          refine lv_imul hx hb dX1_nthDifference_57 ?_
          refine lv_iload hx hb dX1_nthDifference_58 (lv_at hl 0 rfl) ?_
          refine lv_iload hx hb dX1_nthDifference_60 (lv_at hl 2 rfl) ?_
          obtain ⟨z8, hz8, hm⟩ := bd_at hm
          refine k_callS (As := [.int v3, .int y4]) (rest := [.int (y5 * (12 : Int32))]) (wr := [(t, .inr (1, [.ref t_row_a, .ref t_count_a])), (t_row_a, .inl (cI, 1440, .inl t_row)), (o, .inr (1, [.ref o_row_a, .ref o_count_a])), (o_row_a, .inl (cI, 1440, .inl o_row))]) (ws1 := [(t, .inr (1, [.ref t_row_a, .ref t_count_a])), (t_row_a, .inl (cI, 1440, .inl t_row)), (o, .inr (1, [.ref o_row_a, .ref o_count_a])), (o_row_a, .inl (cI, 1440, .inl o_row))]) [] [0, 1, 2, 3] [0, 1, 2, 3] (K_FactSet_nthBit l D cB cI cZ cJ v3 y4 F z8 hz8) ms_X1_nthBit km_X1_38 hx hb hml hown hts hK hP hD hS hA hl.1 ⟨Nat.zero_le _, Nat.zero_le _⟩ dX1_nthDifference_62 rfl rfl (Nat.le_of_ble_eq_true rfl) ⟨⟨rfl, rfl⟩, Nat.le_of_ble_eq_true rfl, Nat.le_of_ble_eq_true rfl⟩ rfl rfl (by decide) rfl (fun H locs hP hD hS => ?_)
          have hP : va_P D vwCl [(t, .inr (1, [.ref t_row_a, .ref t_count_a])), (t_row_a, .inl (cI, 1440, .inl t_row)), (o, .inr (1, [.ref o_row_a, .ref o_count_a])), (o_row_a, .inl (cI, 1440, .inl o_row))] H := hP
          have hD : va_D A [(t, .inr (1, [.ref t_row_a, .ref t_count_a])), (t_row_a, .inl (cI, 1440, .inl t_row)), (o, .inr (1, [.ref o_row_a, .ref o_count_a])), (o_row_a, .inl (cI, 1440, .inl o_row))] := hD
          refine lv_iadd hx hb dX1_nthDifference_65 ?_
          have ho := hR _ (Option.some.inj hm).symm
          exact k_iret hx hb hr hlocks hK hP hD hS dX1_nthDifference_66 hQ (by rw [← ho]) rfl
  unfold M_FactSet_nthDifference at hm
  obtain ⟨H, eH⟩ : ∃ H, H = s.heap := ⟨_, rfl⟩
  obtain ⟨locs, el⟩ : ∃ x : List Loc, x = [] := ⟨_, rfl⟩
  have hP : va_P D vwCl [(t, .inr (1, [.ref t_row_a, .ref t_count_a])), (t_row_a, .inl (cI, 1440, .inl t_row)), (o, .inr (1, [.ref o_row_a, .ref o_count_a])), (o_row_a, .inl (cI, 1440, .inl o_row))] H := eH ▸ hP
  have hS : va_S A s.heap H locs := by rw [eH, el]; exact hS
  suffices hW : W p l e { frames := 1, cells := 0, slots := 0, locals := 23 } s m args below meth c H locs 0 0 Q (F0 m 0 ls []) by rw [eH, el] at hW; exact hW
  clear eH el
  refine lv_iload_n hx hb dX1_nthDifference_0 rfl (lv_at hl 3 rfl) ?_
  refine lv_istore (lv' := [(4, .int x2), (0, .ref t), (1, .ref o), (2, .int x1), (3, .int x2)]) hx hb dX1_nthDifference_1 hl (by decide) rfl (fun ls hl => ?_)
  refine lv_iconst (v := (0 : Int32)) hx hb dX1_nthDifference_3 (by decide) ?_
  refine lv_istore (lv' := [(5, .int (0 : Int32)), (4, .int x2), (0, .ref t), (1, .ref o), (2, .int x1), (3, .int x2)]) hx hb dX1_nthDifference_4 hl (by decide) rfl (fun ls hl => ?_)
  obtain ⟨z9, hz9, hm⟩ := bd_at hm
  refine L6 x1 F (0 : Int32) x2 z9 hz9 (fun q10 H locs ls ez hP hD hS hl => ?_) (fun o ho => ?_) H locs ls hP hD hS (lv_sub hl [0, 1, 2, 3, 4] rfl)
  · have hm := cs_l ez hm
    refine lv_iconst (v := (-1 : Int32)) hx hb dX1_nthDifference_83 (by decide) ?_
    have ho := Option.some.inj hm
    exact k_iret hx hb hr hlocks hK hP hD hS dX1_nthDifference_84 hQ (by rw [← ho]) rfl
  · have hm := cs_r ho hm
    exact Option.some.inj hm
noncomputable def M_FactSet_touched_L4 (F : Nat) (t_row : Nat → Int32) (t_count : Nat → Int32) (o_row : Nat → Int32) (o_count : Nat → Int32) : Nat → Int32 → Int32 → Option ((Int32))
  | 0, _, _ => none
  | n + 1, y3, y2 => if (10 : Int32) ≤ y3 then (some y2) else (bd_ (M_FactSet_differences F t_row t_count o_row o_count y3) fun z1 => if z1 ≤ 0 then (lt_ (y3 + (1 : Int32)) fun v2 => M_FactSet_touched_L4 F t_row t_count o_row o_count n v2 y2) else (lt_ ((y2 ||| ((1 : Int32) <<< (y3 &&& 31)))) fun v3 => lt_ (y3 + (1 : Int32)) fun v4 => M_FactSet_touched_L4 F t_row t_count o_row o_count n v4 v3))
noncomputable def M_FactSet_touched (F : Nat) (t_row : Nat → Int32) (t_count : Nat → Int32) (o_row : Nat → Int32) (o_count : Nat → Int32) : Option ((Int32)) := bd_ (M_FactSet_touched_L4 F t_row t_count o_row o_count F (0 : Int32) (0 : Int32)) fun z5 => some z5
set_option maxRecDepth 100000 in
set_option maxHeartbeats 4000000 in
theorem K_FactSet_touched (l : Launch) (D : va_G) (cB cI cZ cJ : ClassId) (t : Nat) (t_row_a : Nat) (t_count_a : Nat) (o : Nat) (o_row_a : Nat) (o_count_a : Nat) (t_row : Nat → Int32) (t_count : Nat → Int32) (o_row : Nat → Int32) (o_count : Nat → Int32) (F : Nat) (out : (Int32)) (hm : M_FactSet_touched F t_row t_count o_row o_count = some out) : KC l yX1_touched cX1_touched 4 (some .int) { frames := 2, cells := 0, slots := 0, locals := 45 } D (kTy cB cI cZ cJ) [.ref t, .ref o] [(t, .inr (1, [.ref t_row_a, .ref t_count_a])), (t_row_a, .inl (cI, 1440, .inl t_row)), (t_count_a, .inl (cI, 10, .inl t_count)), (o, .inr (1, [.ref o_row_a, .ref o_count_a])), (o_row_a, .inl (cI, 1440, .inl o_row)), (o_count_a, .inl (cI, 10, .inl o_count))] (some (.int out)) [(t, .inr (1, [.ref t_row_a, .ref t_count_a])), (t_row_a, .inl (cI, 1440, .inl t_row)), (t_count_a, .inl (cI, 10, .inl t_count)), (o, .inr (1, [.ref o_row_a, .ref o_count_a])), (o_row_a, .inl (cI, 1440, .inl o_row)), (o_count_a, .inl (cI, 10, .inl o_count))] := by
  refine KC.of (by decide +kernel) (Nat.le_of_ble_eq_true rfl) ?_
  intro p e s m below meth c A ls args Q hQ CX hA hK hP hD hl
  obtain ⟨hx, hb, hr, hml, hown, hts, hlocks⟩ := CX
  have hown : s.vm.findClass RX1 = some m.cls := hown
  have hS : va_S A s.heap s.heap [] := va_S.rf
  have hl : lv_has ls 4 [(0, .ref t), (1, .ref o)] := hl
  have L4 : ∀ (n : Nat) (y3 : Int32) (y2 : Int32) (z : ((Int32))), M_FactSet_touched_L4 F t_row t_count o_row o_count n y3 y2 = some z →
      (∀ (H : Heap) (locs : List Loc) (ls : Array Slot), va_P D vwCl [(t, .inr (1, [.ref t_row_a, .ref t_count_a])), (t_row_a, .inl (cI, 1440, .inl t_row)), (t_count_a, .inl (cI, 10, .inl t_count)), (o, .inr (1, [.ref o_row_a, .ref o_count_a])), (o_row_a, .inl (cI, 1440, .inl o_row)), (o_count_a, .inl (cI, 10, .inl o_count))] H → va_D A [(t, .inr (1, [.ref t_row_a, .ref t_count_a])), (t_row_a, .inl (cI, 1440, .inl t_row)), (t_count_a, .inl (cI, 10, .inl t_count)), (o, .inr (1, [.ref o_row_a, .ref o_count_a])), (o_row_a, .inl (cI, 1440, .inl o_row)), (o_count_a, .inl (cI, 10, .inl o_count))] → va_S A s.heap H locs → lv_has ls 4 [(2, .int z)] → W p l e { frames := 2, cells := 0, slots := 0, locals := 45 } s m args below meth c H locs 0 0 Q (F0 m 31 ls [])) →
      ∀ (H : Heap) (locs : List Loc) (ls : Array Slot), va_P D vwCl [(t, .inr (1, [.ref t_row_a, .ref t_count_a])), (t_row_a, .inl (cI, 1440, .inl t_row)), (t_count_a, .inl (cI, 10, .inl t_count)), (o, .inr (1, [.ref o_row_a, .ref o_count_a])), (o_row_a, .inl (cI, 1440, .inl o_row)), (o_count_a, .inl (cI, 10, .inl o_count))] H → va_D A [(t, .inr (1, [.ref t_row_a, .ref t_count_a])), (t_row_a, .inl (cI, 1440, .inl t_row)), (t_count_a, .inl (cI, 10, .inl t_count)), (o, .inr (1, [.ref o_row_a, .ref o_count_a])), (o_row_a, .inl (cI, 1440, .inl o_row)), (o_count_a, .inl (cI, 10, .inl o_count))] → va_S A s.heap H locs → lv_has ls 4 [(3, .int y3), (2, .int y2), (0, .ref t), (1, .ref o)] → W p l e { frames := 2, cells := 0, slots := 0, locals := 45 } s m args below meth c H locs 0 0 Q (F0 m 4 ls []) := by
    intro  n
    induction n with
    | zero => intro y3 y2 z hm; unfold M_FactSet_touched_L4 at hm; cases hm
    | succ n ih =>
      intro y3 y2 z hm hE H locs ls hP hD hS hl
      unfold M_FactSet_touched_L4 at hm
      refine lv_iload_n hx hb dX1_touched_4 rfl (lv_at hl 0 rfl) ?_
      refine lv_bipush (v := (10 : Int32)) hx hb dX1_touched_5 (by decide) ?_
      refine lv_icmp_ge (tgt := 31) hx hb dX1_touched_7 (by decide) (fun hc => ?_) (fun hc => ?_)
      · have hm := if_t hc hm
        cases hm
        exact hE H locs ls hP hD hS (lv_sub hl [1] rfl)
      · have hm := if_f hc hm
        refine lv_aload_n hx hb dX1_touched_10 rfl (lv_at hl 2 rfl) ?_
        refine lv_aload_n hx hb dX1_touched_11 rfl (lv_at hl 3 rfl) ?_
        refine lv_iload_n hx hb dX1_touched_12 rfl (lv_at hl 0 rfl) ?_
        obtain ⟨z1, hz1, hm⟩ := bd_at hm
        refine k_callV (As := [.ref o, .int y3]) (rest := []) (wr := []) (ws1 := [(t, .inr (1, [.ref t_row_a, .ref t_count_a])), (t_row_a, .inl (cI, 1440, .inl t_row)), (t_count_a, .inl (cI, 10, .inl t_count)), (o, .inr (1, [.ref o_row_a, .ref o_count_a])), (o_row_a, .inl (cI, 1440, .inl o_row)), (o_count_a, .inl (cI, 10, .inl o_count))]) [0, 1, 2, 3, 4, 5] [] [0, 1, 2, 3, 4, 5] (K_FactSet_differences l D cB cI cZ cJ t t_row_a t_count_a o o_row_a o_count_a t_row t_count o_row o_count y3 F z1 hz1) mf_X1_differences km_X1_42 hx hb hml hown hts hK hP hD hS hA hl.1 ⟨Nat.zero_le _, Nat.zero_le _⟩ dX1_touched_13 rfl rfl (Nat.le_of_ble_eq_true rfl) ⟨⟨rfl, rfl⟩, Nat.le_of_ble_eq_true rfl, Nat.le_of_ble_eq_true rfl⟩ rfl rfl (by decide) rfl rfl rfl rfl (fun H locs hP hD hS => ?_)
        have hP : va_P D vwCl [(t, .inr (1, [.ref t_row_a, .ref t_count_a])), (t_row_a, .inl (cI, 1440, .inl t_row)), (t_count_a, .inl (cI, 10, .inl t_count)), (o, .inr (1, [.ref o_row_a, .ref o_count_a])), (o_row_a, .inl (cI, 1440, .inl o_row)), (o_count_a, .inl (cI, 10, .inl o_count))] H := hP
        have hD : va_D A [(t, .inr (1, [.ref t_row_a, .ref t_count_a])), (t_row_a, .inl (cI, 1440, .inl t_row)), (t_count_a, .inl (cI, 10, .inl t_count)), (o, .inr (1, [.ref o_row_a, .ref o_count_a])), (o_row_a, .inl (cI, 1440, .inl o_row)), (o_count_a, .inl (cI, 10, .inl o_count))] := hD
        refine lv_if_le (tgt := 25) hx hb dX1_touched_16 (by decide) (fun hc => ?_) (fun hc => ?_)
        · have hm := if_t hc hm
          obtain ⟨v2, ev2⟩ : ∃ y : Int32, y = y3 + (1 : Int32) := ⟨_, rfl⟩
          have hm := lt_at ev2 hm
          refine lv_iinc (v := v2) (lv' := [(3, .int v2), (2, .int y2), (0, .ref t), (1, .ref o)]) hx hb dX1_touched_25 hl (k := 0) rfl (by rw [ev2]; rfl) (by decide) rfl (fun ls hl => ?_)
          refine lv_goto (tgt := 4) hx hb dX1_touched_28 (by decide) ?_
          exact ih v2 y2 z hm hE H locs ls hP hD hS (lv_sub hl [0, 1, 2, 3] rfl)
        · have hm := if_f hc hm
          refine lv_iload_n hx hb dX1_touched_19 rfl (lv_at hl 1 rfl) ?_
          refine lv_iconst (v := (1 : Int32)) hx hb dX1_touched_20 (by decide) ?_
          refine lv_iload_n hx hb dX1_touched_21 rfl (lv_at hl 0 rfl) ?_
          refine lv_ishl hx hb dX1_touched_22 ?_
          refine lv_ior hx hb dX1_touched_23 ?_
          refine lv_topi (fun v3 ev3 => ?_)
          have hm := lt_at ev3 hm
          refine lv_istore_n (lv' := [(2, .int v3), (3, .int y3), (0, .ref t), (1, .ref o)]) hx hb dX1_touched_24 rfl hl (by decide) rfl (fun ls hl => ?_)
          obtain ⟨v4, ev4⟩ : ∃ y : Int32, y = y3 + (1 : Int32) := ⟨_, rfl⟩
          have hm := lt_at ev4 hm
          refine lv_iinc (v := v4) (lv' := [(3, .int v4), (2, .int v3), (0, .ref t), (1, .ref o)]) hx hb dX1_touched_25 hl (k := 1) rfl (by rw [ev4]; rfl) (by decide) rfl (fun ls hl => ?_)
          refine lv_goto (tgt := 4) hx hb dX1_touched_28 (by decide) ?_
          exact ih v4 v3 z hm hE H locs ls hP hD hS (lv_sub hl [0, 1, 2, 3] rfl)
  unfold M_FactSet_touched at hm
  obtain ⟨H, eH⟩ : ∃ H, H = s.heap := ⟨_, rfl⟩
  obtain ⟨locs, el⟩ : ∃ x : List Loc, x = [] := ⟨_, rfl⟩
  have hP : va_P D vwCl [(t, .inr (1, [.ref t_row_a, .ref t_count_a])), (t_row_a, .inl (cI, 1440, .inl t_row)), (t_count_a, .inl (cI, 10, .inl t_count)), (o, .inr (1, [.ref o_row_a, .ref o_count_a])), (o_row_a, .inl (cI, 1440, .inl o_row)), (o_count_a, .inl (cI, 10, .inl o_count))] H := eH ▸ hP
  have hS : va_S A s.heap H locs := by rw [eH, el]; exact hS
  suffices hW : W p l e { frames := 2, cells := 0, slots := 0, locals := 45 } s m args below meth c H locs 0 0 Q (F0 m 0 ls []) by rw [eH, el] at hW; exact hW
  clear eH el
  refine lv_iconst (v := (0 : Int32)) hx hb dX1_touched_0 (by decide) ?_
  refine lv_istore_n (lv' := [(2, .int (0 : Int32)), (0, .ref t), (1, .ref o)]) hx hb dX1_touched_1 rfl hl (by decide) rfl (fun ls hl => ?_)
  refine lv_iconst (v := (0 : Int32)) hx hb dX1_touched_2 (by decide) ?_
  refine lv_istore_n (lv' := [(3, .int (0 : Int32)), (2, .int (0 : Int32)), (0, .ref t), (1, .ref o)]) hx hb dX1_touched_3 rfl hl (by decide) rfl (fun ls hl => ?_)
  obtain ⟨z5, hz5, hm⟩ := bd_at hm
  refine L4  F (0 : Int32) (0 : Int32) z5 hz5 (fun H locs ls hP hD hS hl => ?_) H locs ls hP hD hS (lv_sub hl [0, 1, 2, 3] rfl)
  refine lv_iload_n hx hb dX1_touched_31 rfl (lv_at hl 0 rfl) ?_
  have ho := Option.some.inj hm
  exact k_iret hx hb hr hlocks hK hP hD hS dX1_touched_32 hQ (by rw [← ho]) rfl
