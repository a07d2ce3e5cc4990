theorem kf_X7_13 : Cond.fieldLink RX7 13 "RuleHall$Tape" "length" "I" ∈ kT := k_in 103 (by decide +kernel)
theorem kf_X7_9 : Cond.fieldLink RX7 9 "RuleHall$Tape" "text" "[B" ∈ kT := k_in 102 (by decide +kernel)
theorem km_X7_17 : Cond.methodLink RX7 17 yX7_isPrintable ∈ kT := k_in 353 (by decide +kernel)
theorem km_X7_21 : Cond.methodLink RX7 21 yX7_byteOf ∈ kT := k_in 356 (by decide +kernel)
theorem ms_X7_byteOf : MS yX7_byteOf cX7_byteOf 3 (some .int) 2 := ⟨k_in 357 (by decide +kernel), k_in 71 (by decide +kernel), k_in 358 (by decide +kernel), ⟨by decide +kernel, by decide +kernel, by decide +kernel⟩⟩
theorem ms_X7_isPrintable : MS yX7_isPrintable cX7_isPrintable 5 (some .boolean) 2 := ⟨k_in 354 (by decide +kernel), k_in 71 (by decide +kernel), k_in 355 (by decide +kernel), ⟨by decide +kernel, by decide +kernel, by decide +kernel⟩⟩
noncomputable def M_Tape_clear (t_length : Int32) : Option ((Int32)) := some (0 : Int32)
set_option maxRecDepth 100000 in
set_option maxHeartbeats 4000000 in
theorem K_Tape_clear (l : Launch) (D : va_G) (cB cI cZ cJ : ClassId) (t : Nat) (t_text_a : Nat) (t_length : Int32) (out : (Int32)) (hm : M_Tape_clear t_length = some out) : KC l yX7_clear cX7_clear 1 none { frames := 0, cells := 0, slots := 0, locals := 0 } D (kTy cB cI cZ cJ) [.ref t] [(t, .inr (7, [.ref t_text_a, .int t_length]))] none [(t, .inr (7, [.ref t_text_a, .int out]))] := by
  refine KC.of (by decide +kernel) (Nat.le_of_ble_eq_true rfl) ?_
  intro p e s m below meth c A ls args Q hQ CX hA hK hP hD hl
  obtain ⟨hx, hb, hr, hml, hown, hts, hlocks⟩ := CX
  have hown : s.vm.findClass RX7 = some m.cls := hown
  have hS : va_S A s.heap s.heap [] := va_S.rf
  have hl : lv_has ls 1 [(0, .ref t)] := hl
  unfold M_Tape_clear at hm
  obtain ⟨H, eH⟩ : ∃ H, H = s.heap := ⟨_, rfl⟩
  obtain ⟨locs, el⟩ : ∃ x : List Loc, x = [] := ⟨_, rfl⟩
  have hP : va_P D vwCl [(t, .inr (7, [.ref t_text_a, .int t_length]))] H := eH ▸ hP
  have hS : va_S A s.heap H locs := by rw [eH, el]; exact hS
  suffices hW : W p l e { frames := 0, cells := 0, slots := 0, locals := 0 } s m args below meth c H locs 0 0 Q (F0 m 0 ls []) by rw [eH, el] at hW; exact hW
  clear eH el
  refine lv_aload_n hx hb dX7_clear_0 rfl (lv_at hl 0 rfl) ?_
  refine lv_iconst (v := (0 : Int32)) hx hb dX7_clear_1 (by decide) ?_
  refine va_put (D := D) (ci := 7) (v := .int (0 : Int32)) (ty := .int) (C := RX7) (T := TX7) (N := 2) hx hb hts in_X7 tyX7 tyX7_ok nmX7 hown hK hP hD hS 0 rfl rfl 1 (by decide) (hts _ kf_X7_13) (fun _ h9 => h9) rfl (by decide +kernel) rfl rfl (Nat.le_of_ble_eq_true rfl) dX7_clear_2 (fun H locs hP hD hS => ?_)
  have hP : va_P D vwCl [(t, .inr (7, [.ref t_text_a, .int (0 : Int32)]))] H := hP
  have hD : va_D A [(t, .inr (7, [.ref t_text_a, .int (0 : Int32)]))] := hD
  have ho := Option.some.inj hm
  exact k_vret hx hb hr hlocks hK hP hD hS dX7_clear_5 hQ rfl (by rw [← ho])
noncomputable def M_Tape_at (t_text : Nat → Int32) (t_length : Int32) (x0 : Int32) : Option ((Int32)) := if x0 < 0 then (some (-1 : Int32)) else (if t_length ≤ x0 then (some (-1 : Int32)) else (gd_ x0 480 <| some (t_text x0.toNatClampNeg)))
set_option maxRecDepth 100000 in
set_option maxHeartbeats 4000000 in
theorem K_Tape_at (l : Launch) (D : va_G) (cB cI cZ cJ : ClassId) (t : Nat) (t_text_a : Nat) (t_length : Int32) (t_text : Nat → Int32) (x0 : Int32) (out : (Int32)) (hm : M_Tape_at t_text t_length x0 = some out) : KC l yX7_at cX7_at 2 (some .int) { frames := 0, cells := 0, slots := 0, locals := 0 } D (kTy cB cI cZ cJ) [.ref t, .int x0] [(t, .inr (7, [.ref t_text_a, .int t_length])), (t_text_a, .inl (cB, 480, .inl t_text))] (some (.int out)) [(t, .inr (7, [.ref t_text_a, .int t_length])), (t_text_a, .inl (cB, 480, .inl t_text))] := by
  refine KC.of (by decide +kernel) (Nat.le_of_ble_eq_true rfl) ?_
  intro p e s m below meth c A ls args Q hQ CX hA hK hP hD hl
  obtain ⟨hx, hb, hr, hml, hown, hts, hlocks⟩ := CX
  have hown : s.vm.findClass RX7 = some m.cls := hown
  have hS : va_S A s.heap s.heap [] := va_S.rf
  have hl : lv_has ls 2 [(0, .ref t), (1, .int x0)] := hl
  unfold M_Tape_at at hm
  obtain ⟨H, eH⟩ : ∃ H, H = s.heap := ⟨_, rfl⟩
  obtain ⟨locs, el⟩ : ∃ x : List Loc, x = [] := ⟨_, rfl⟩
  have hP : va_P D vwCl [(t, .inr (7, [.ref t_text_a, .int t_length])), (t_text_a, .inl (cB, 480, .inl t_text))] H := eH ▸ hP
  have hS : va_S A s.heap H locs := by rw [eH, el]; exact hS
  suffices hW : W p l e { frames := 0, cells := 0, slots := 0, locals := 0 } s m args below meth c H locs 0 0 Q (F0 m 0 ls []) by rw [eH, el] at hW; exact hW
  clear eH el
  refine lv_iload_n hx hb dX7_at_0 rfl (lv_at hl 1 rfl) ?_
  refine lv_if_lt (tgt := 21) hx hb dX7_at_1 (by decide) (fun hc => ?_) (fun hc => ?_)
  · have hm := if_t hc hm
    refine lv_iconst (v := (-1 : Int32)) hx hb dX7_at_21 (by decide) ?_
    have ho := Option.some.inj hm
    exact k_iret hx hb hr hlocks hK hP hD hS dX7_at_22 hQ (by rw [← ho]) rfl
  · have hm := if_f hc hm
    refine lv_iload_n hx hb dX7_at_4 rfl (lv_at hl 1 rfl) ?_
    refine lv_aload_n hx hb dX7_at_5 rfl (lv_at hl 0 rfl) ?_
    refine va_get (D := D) (ci := 7) (v := .int t_length) (C := RX7) (T := TX7) (N := 2) hx hb hts in_X7 hown hK hP 0 rfl rfl 1 (by decide) (hts _ kf_X7_13) (fun _ h9 => h9) rfl dX7_at_6 ?_
    refine lv_icmp_ge (tgt := 21) hx hb dX7_at_9 (by decide) (fun hc => ?_) (fun hc => ?_)
    · have hm := if_t hc hm
      refine lv_iconst (v := (-1 : Int32)) hx hb dX7_at_21 (by decide) ?_
      have ho := Option.some.inj hm
      exact k_iret hx hb hr hlocks hK hP hD hS dX7_at_22 hQ (by rw [← ho]) rfl
    · have hm := if_f hc hm
      refine lv_aload_n hx hb dX7_at_12 rfl (lv_at hl 0 rfl) ?_
      refine va_get (D := D) (ci := 7) (v := .ref t_text_a) (C := RX7) (T := TX7) (N := 2) hx hb hts in_X7 hown hK hP 0 rfl rfl 0 (by decide) (hts _ kf_X7_9) (fun _ h9 => h9) rfl dX7_at_13 ?_
      refine lv_iload_n hx hb dX7_at_16 rfl (lv_at hl 1 rfl) ?_
      refine va_bald hx hb hK hP 1 0 rfl rfl (gd_in hm) dX7_at_17 ?_
      have hm := gd_go hm
      refine lv_goto (tgt := 22) hx hb dX7_at_18 (by decide) ?_
      have ho := Option.some.inj hm
      exact k_iret hx hb hr hlocks hK hP hD hS dX7_at_22 hQ (by rw [← ho]) rfl
noncomputable def M_Tape_byteOf (x0 : Int64) (x1 : Int32) : Option ((Int32)) := lt_ ((((x0.toUInt64 >>> (((8 : Int32) * x1).toInt64.toUInt64 &&& Int64.toUInt64 63)).toInt64.toInt32) &&& (255 : Int32))) fun v1 => some v1
set_option maxRecDepth 100000 in
set_option maxHeartbeats 4000000 in
theorem K_Tape_byteOf (l : Launch) (D : va_G) (cB cI cZ cJ : ClassId) (x0 : Int64) (x1 : Int32) (out : (Int32)) (hm : M_Tape_byteOf x0 x1 = some out) : KC l yX7_byteOf cX7_byteOf 3 (some .int) { frames := 0, cells := 0, slots := 0, locals := 0 } D (kTy cB cI cZ cJ) [.long x0, .int x1] [] (some (.int out)) [] := by
  refine KC.of (by decide +kernel) (Nat.le_of_ble_eq_true rfl) ?_
  intro p e s m below meth c A ls args Q hQ CX hA hK hP hD hl
  obtain ⟨hx, hb, hr, hml, hown, hts, hlocks⟩ := CX
  have hown : s.vm.findClass RX7 = some m.cls := hown
  have hS : va_S A s.heap s.heap [] := va_S.rf
  have hl : lv_has ls 3 [(0, .long x0), (2, .int x1)] := hl
  unfold M_Tape_byteOf at hm
  obtain ⟨H, eH⟩ : ∃ H, H = s.heap := ⟨_, rfl⟩
  obtain ⟨locs, el⟩ : ∃ x : List Loc, x = [] := ⟨_, rfl⟩
  have hP : va_P D vwCl [] H := eH ▸ hP
  have hS : va_S A s.heap H locs := by rw [eH, el]; exact hS
  suffices hW : W p l e { frames := 0, cells := 0, slots := 0, locals := 0 } s m args below meth c H locs 0 0 Q (F0 m 0 ls []) by rw [eH, el] at hW; exact hW
  clear eH el
  refine lv_lload_n hx hb dX7_byteOf_0 rfl (lv_at hl 0 rfl) ?_
  refine lv_bipush (v := (8 : Int32)) hx hb dX7_byteOf_1 (by decide) ?_
  refine lv_iload_n hx hb dX7_byteOf_3 rfl (lv_at hl 1 rfl) ?_
  refine lv_imul hx hb dX7_byteOf_4 ?_
  refine lv_lushr hx hb dX7_byteOf_5 rfl ?_
  refine lv_l2i hx hb dX7_byteOf_6 rfl ?_
  refine lv_sipush (v := (255 : Int32)) hx hb dX7_byteOf_7 (by decide) ?_
  refine lv_iand hx hb dX7_byteOf_10 ?_
  refine lv_topi (fun v1 ev1 => ?_)
  have hm := lt_at ev1 hm
  have ho := Option.some.inj hm
  exact k_iret hx hb hr hlocks hK hP hD hS dX7_byteOf_11 hQ (by rw [← ho]) rfl
noncomputable def M_Tape_isPrintable_L2 (F : Nat) (w0 : Int64) (w2 : Int32) : Nat → Int32 → Option ((Unit) ⊕ ((Int32)))
  | 0, _ => none
  | n + 1, y3 => if w2 ≤ y3 then (some (.inl ())) else (bd_ (M_Tape_byteOf w0 y3) fun z1 => if z1 < (32 : Int32) then (some (.inr (0 : Int32))) else (if z1 ≤ (126 : Int32) then (lt_ (y3 + (1 : Int32)) fun v2 => M_Tape_isPrintable_L2 F w0 w2 n v2) else (some (.inr (0 : Int32)))))
noncomputable def M_Tape_isPrintable (F : Nat) (x0 : Int64) (x1 : Int32) : Option ((Int32)) := bd_ (M_Tape_isPrintable_L2 F x0 x1 F (0 : Int32)) fun z3 => cs_ z3 (fun q4 => some (1 : Int32)) (fun o => some o)
set_option maxRecDepth 100000 in
set_option maxHeartbeats 4000000 in
theorem K_Tape_isPrintable (l : Launch) (D : va_G) (cB cI cZ cJ : ClassId) (x0 : Int64) (x1 : Int32) (F : Nat) (out : (Int32)) (hm : M_Tape_isPrintable F x0 x1 = some out) : KC l yX7_isPrintable cX7_isPrintable 5 (some .boolean) { frames := 1, cells := 0, slots := 0, locals := 22 } D (kTy cB cI cZ cJ) [.long x0, .int x1] [] (some (.int out)) [] := by
  refine KC.of (by decide +kernel) (Nat.le_of_ble_eq_true rfl) ?_
  intro p e s m below meth c A ls args Q hQ CX hA hK hP hD hl
  obtain ⟨hx, hb, hr, hml, hown, hts, hlocks⟩ := CX
  have hown : s.vm.findClass RX7 = some m.cls := hown
  have hS : va_S A s.heap s.heap [] := va_S.rf
  have hl : lv_has ls 5 [(0, .long x0), (2, .int x1)] := hl
  have L2 : ∀ (w0 : Int64) (w2 : Int32) (n : Nat) (y3 : Int32) (z : ((Unit) ⊕ ((Int32)))), M_Tape_isPrintable_L2 F w0 w2 n y3 = some z →
      (∀ (q : Unit) (H : Heap) (locs : List Loc) (ls : Array Slot), z = .inl q → va_P D vwCl [] H → va_D A [] → va_S A s.heap H locs → lv_has ls 5 [] → W p l e { frames := 1, cells := 0, slots := 0, locals := 22 } s m args below meth c H locs 0 0 Q (F0 m 36 ls [])) →
      (∀ o, z = .inr o → o = out) →
      ∀ (H : Heap) (locs : List Loc) (ls : Array Slot), va_P D vwCl [] H → va_D A [] → va_S A s.heap H locs → lv_has ls 5 [(3, .int y3), (0, .long w0), (2, .int w2)] → W p l e { frames := 1, cells := 0, slots := 0, locals := 22 } s m args below meth c H locs 0 0 Q (F0 m 2 ls []) := by
    intro w0 w2 n
    induction n with
    | zero => intro y3 z hm; unfold M_Tape_isPrintable_L2 at hm; cases hm
    | succ n ih =>
      intro y3 z hm hE hR H locs ls hP hD hS hl
      unfold M_Tape_isPrintable_L2 at hm
      refine lv_iload_n hx hb dX7_isPrintable_2 rfl (lv_at hl 0 rfl) ?_
      refine lv_iload_n hx hb dX7_isPrintable_3 rfl (lv_at hl 2 rfl) ?_
      refine lv_icmp_ge (tgt := 36) hx hb dX7_isPrintable_4 (by decide) (fun hc => ?_) (fun hc => ?_)
      · have hm := if_t hc hm
        exact hE _ H locs ls (Option.some.inj hm).symm hP hD hS (lv_sub hl [] rfl)
      · have hm := if_f hc hm
        refine lv_lload_n hx hb dX7_isPrintable_7 rfl (lv_at hl 1 rfl) ?_
        refine lv_iload_n hx hb dX7_isPrintable_8 rfl (lv_at hl 0 rfl) ?_
        obtain ⟨z1, hz1, hm⟩ := bd_at hm
        refine k_callS (As := [.long w0, .int y3]) (rest := []) (wr := []) (ws1 := []) [] [] [] (K_Tape_byteOf l D cB cI cZ cJ w0 y3 z1 hz1) ms_X7_byteOf km_X7_21 hx hb hml hown hts hK hP hD hS hA hl.1 ⟨Nat.zero_le _, Nat.zero_le _⟩ dX7_isPrintable_9 rfl rfl (Nat.le_of_ble_eq_true rfl) ⟨⟨rfl, rfl⟩, Nat.le_of_ble_eq_true rfl, Nat.le_of_ble_eq_true rfl⟩ rfl rfl (by decide) rfl (fun H locs hP hD hS => ?_)
        have hP : va_P D vwCl [] H := hP
        have hD : va_D A [] := hD
        refine lv_istore (lv' := [(4, .int z1), (3, .int y3), (0, .long w0), (2, .int w2)]) hx hb dX7_isPrintable_12 hl (by decide) rfl (fun ls hl => ?_)
        refine lv_iload hx hb dX7_isPrintable_14 (lv_at hl 0 rfl) ?_
        refine lv_bipush (v := (32 : Int32)) hx hb dX7_isPrintable_16 (by decide) ?_
        refine lv_icmp_lt (tgt := 28) hx hb dX7_isPrintable_18 (by decide) (fun hc => ?_) (fun hc => ?_)
        · have hm := if_t hc hm
          refine lv_iconst (v := (0 : Int32)) hx hb dX7_isPrintable_28 (by decide) ?_
          have ho := hR _ (Option.some.inj hm).symm
          exact k_zret (by decide +kernel) hx hb hr hlocks hK hP hD hS dX7_isPrintable_29 hQ (by rw [← ho]) rfl
        · have hm := if_f hc hm
          refine lv_iload hx hb dX7_isPrintable_21 (lv_at hl 0 rfl) ?_
          refine lv_bipush (v := (126 : Int32)) hx hb dX7_isPrintable_23 (by decide) ?_
          refine lv_icmp_le (tgt := 30) hx hb dX7_isPrintable_25 (by decide) (fun hc => ?_) (fun hc => ?_)
          · have hm := if_t hc hm
            obtain ⟨v2, ev2⟩ : ∃ y : Int32, y = y3 + (1 : Int32) := ⟨_, rfl⟩
            have hm := lt_at ev2 hm
            refine lv_iinc (v := v2) (lv' := [(3, .int v2), (4, .int z1), (0, .long w0), (2, .int w2)]) hx hb dX7_isPrintable_30 hl (k := 1) rfl (by rw [ev2]; rfl) (by decide) rfl (fun ls hl => ?_)
            refine lv_goto (tgt := 2) hx hb dX7_isPrintable_33 (by decide) ?_
            exact ih v2 z hm hE hR H locs ls hP hD hS (lv_sub hl [0, 2, 3] rfl)
          · have hm := if_f hc hm
            refine lv_iconst (v := (0 : Int32)) hx hb dX7_isPrintable_28 (by decide) ?_
            have ho := hR _ (Option.some.inj hm).symm
            exact k_zret (by decide +kernel) hx hb hr hlocks hK hP hD hS dX7_isPrintable_29 hQ (by rw [← ho]) rfl
  unfold M_Tape_isPrintable at hm
  obtain ⟨H, eH⟩ : ∃ H, H = s.heap := ⟨_, rfl⟩
  obtain ⟨locs, el⟩ : ∃ x : List Loc, x = [] := ⟨_, rfl⟩
  have hP : va_P D vwCl [] H := eH ▸ hP
  have hS : va_S A s.heap H locs := by rw [eH, el]; exact hS
  suffices hW : W p l e { frames := 1, cells := 0, slots := 0, locals := 22 } s m args below meth c H locs 0 0 Q (F0 m 0 ls []) by rw [eH, el] at hW; exact hW
  clear eH el
  refine lv_iconst (v := (0 : Int32)) hx hb dX7_isPrintable_0 (by decide) ?_
  refine lv_istore_n (lv' := [(3, .int (0 : Int32)), (0, .long x0), (2, .int x1)]) hx hb dX7_isPrintable_1 rfl hl (by decide) rfl (fun ls hl => ?_)
  obtain ⟨z3, hz3, hm⟩ := bd_at hm
  refine L2 x0 x1 F (0 : Int32) z3 hz3 (fun q4 H locs ls ez hP hD hS hl => ?_) (fun o ho => ?_) H locs ls hP hD hS (lv_sub hl [0, 1, 2] rfl)
  · have hm := cs_l ez hm
    refine lv_iconst (v := (1 : Int32)) hx hb dX7_isPrintable_36 (by decide) ?_
    have ho := Option.some.inj hm
    exact k_zret (by decide +kernel) hx hb hr hlocks hK hP hD hS dX7_isPrintable_37 hQ (by rw [← ho]) rfl
  · have hm := cs_r ho hm
    exact Option.some.inj hm
noncomputable def M_Tape_append_L38 (F : Nat) (w1 : Int64) : Nat → Int32 → (Nat → Int32) → (Int32) → Option ((Nat → Int32) × (Int32))
  | 0, _, _, _ => none
  | n + 1, y4, c_t_text, c_t_length => if y4 < 0 then (some (c_t_text, c_t_length)) else (bd_ (M_Tape_byteOf w1 y4) fun z3 => gd_ c_t_length 480 <| lt_ (upd c_t_text c_t_length.toNatClampNeg (vp_nar .byte (z3.toInt8.toInt32))) fun f4 => lt_ ((c_t_length + (1 : Int32))) fun v5 => lt_ (y4 + (-1 : Int32)) fun v6 => M_Tape_append_L38 F w1 n v6 f4 v5)
noncomputable def M_Tape_append (F : Nat) (t_text : Nat → Int32) (t_length : Int32) (x0 : Int64) (x1 : Int32) : Option ((Int32) × (Nat → Int32) × (Int32)) := if x1 < (1 : Int32) then (some ((0 : Int32), t_text, t_length)) else (if (8 : Int32) < x1 then (some ((0 : Int32), t_text, t_length)) else (if (480 : Int32) < (t_length + x1) then (some ((0 : Int32), t_text, t_length)) else (bd_ (M_Tape_isPrintable F x0 x1) fun z1 => if z1 = 0 then (some ((0 : Int32), t_text, t_length)) else (lt_ ((x1 - (1 : Int32))) fun v2 => bd_ (M_Tape_append_L38 F x0 F v2 t_text t_length) fun z7 => some ((1 : Int32), z7.1, z7.2)))))
set_option maxRecDepth 100000 in
set_option maxHeartbeats 4000000 in
theorem K_Tape_append (l : Launch) (D : va_G) (cB cI cZ cJ : ClassId) (t : Nat) (t_text_a : Nat) (t_length : Int32) (t_text : Nat → Int32) (x0 : Int64) (x1 : Int32) (F : Nat) (out : (Int32) × (Nat → Int32) × (Int32)) (hm : M_Tape_append F t_text t_length x0 x1 = some out) : KC l yX7_append cX7_append 5 (some .boolean) { frames := 2, cells := 0, slots := 0, locals := 46 } D (kTy cB cI cZ cJ) [.ref t, .long x0, .int x1] [(t, .inr (7, [.ref t_text_a, .int t_length])), (t_text_a, .inl (cB, 480, .inl t_text))] (some (.int out.1)) [(t, .inr (7, [.ref t_text_a, .int out.2.2])), (t_text_a, .inl (cB, 480, .inl out.2.1))] := by
  refine KC.of (by decide +kernel) (Nat.le_of_ble_eq_true rfl) ?_
  intro p e s m below meth c A ls args Q hQ CX hA hK hP hD hl
  obtain ⟨hx, hb, hr, hml, hown, hts, hlocks⟩ := CX
  have hown : s.vm.findClass RX7 = some m.cls := hown
  have hS : va_S A s.heap s.heap [] := va_S.rf
  have hl : lv_has ls 5 [(0, .ref t), (1, .long x0), (3, .int x1)] := hl
  have L38 : ∀ (w1 : Int64) (n : Nat) (y4 : Int32) (c_t_text : Nat → Int32) (c_t_length : Int32) (z : ((Nat → Int32) × (Int32))), M_Tape_append_L38 F w1 n y4 c_t_text c_t_length = some z →
      (∀ (H : Heap) (locs : List Loc) (ls : Array Slot), va_P D vwCl [(t, .inr (7, [.ref t_text_a, .int z.2])), (t_text_a, .inl (cB, 480, .inl z.1))] H → va_D A [(t, .inr (7, [.ref t_text_a, .int z.2])), (t_text_a, .inl (cB, 480, .inl z.1))] → va_S A s.heap H locs → lv_has ls 5 [] → W p l e { frames := 2, cells := 0, slots := 0, locals := 46 } s m args below meth c H locs 0 0 Q (F0 m 75 ls [])) →
      ∀ (H : Heap) (locs : List Loc) (ls : Array Slot), va_P D vwCl [(t, .inr (7, [.ref t_text_a, .int c_t_length])), (t_text_a, .inl (cB, 480, .inl c_t_text))] H → va_D A [(t, .inr (7, [.ref t_text_a, .int c_t_length])), (t_text_a, .inl (cB, 480, .inl c_t_text))] → va_S A s.heap H locs → lv_has ls 5 [(4, .int y4), (0, .ref t), (1, .long w1)] → W p l e { frames := 2, cells := 0, slots := 0, locals := 46 } s m args below meth c H locs 0 0 Q (F0 m 38 ls []) := by
    intro w1 n
    induction n with
    | zero => intro y4 c_t_text c_t_length z hm; unfold M_Tape_append_L38 at hm; cases hm
    | succ n ih =>
      intro y4 c_t_text c_t_length z hm hE H locs ls hP hD hS hl
      unfold M_Tape_append_L38 at hm
      refine lv_iload hx hb dX7_append_38 (lv_at hl 0 rfl) ?_
      refine lv_if_lt (tgt := 75) hx hb dX7_append_40 (by decide) (fun hc => ?_) (fun hc => ?_)
      · have hm := if_t hc hm
        cases hm
        exact hE H locs ls hP hD hS (lv_sub hl [] rfl)
      · have hm := if_f hc hm
        refine lv_aload_n hx hb dX7_append_43 rfl (lv_at hl 1 rfl) ?_
        refine va_get (D := D) (ci := 7) (v := .ref t_text_a) (C := RX7) (T := TX7) (N := 2) hx hb hts in_X7 hown hK hP 0 rfl rfl 0 (by decide) (hts _ kf_X7_9) (fun _ h9 => h9) rfl dX7_append_44 ?_
        refine lv_aload_n hx hb dX7_append_47 rfl (lv_at hl 1 rfl) ?_
        refine va_get (D := D) (ci := 7) (v := .int c_t_length) (C := RX7) (T := TX7) (N := 2) hx hb hts in_X7 hown hK hP 0 rfl rfl 1 (by decide) (hts _ kf_X7_13) (fun _ h9 => h9) rfl dX7_append_48 ?_
        refine lv_lload_n hx hb dX7_append_51 rfl (lv_at hl 2 rfl) ?_
        refine lv_iload hx hb dX7_append_52 (lv_at hl 0 rfl) ?_
        obtain ⟨z3, hz3, hm⟩ := bd_at hm
        refine k_callS (As := [.long w1, .int y4]) (rest := [.int c_t_length, .ref t_text_a]) (wr := [(t, .inr (7, [.ref t_text_a, .int c_t_length])), (t_text_a, .inl (cB, 480, .inl c_t_text))]) (ws1 := [(t, .inr (7, [.ref t_text_a, .int c_t_length])), (t_text_a, .inl (cB, 480, .inl c_t_text))]) [] [0, 1] [0, 1] (K_Tape_byteOf l D cB cI cZ cJ w1 y4 z3 hz3) ms_X7_byteOf km_X7_21 hx hb hml hown hts hK hP hD hS hA hl.1 ⟨Nat.zero_le _, Nat.zero_le _⟩ dX7_append_54 rfl rfl (Nat.le_of_ble_eq_true rfl) ⟨⟨rfl, rfl⟩, Nat.le_of_ble_eq_true rfl, Nat.le_of_ble_eq_true rfl⟩ rfl rfl (by decide) rfl (fun H locs hP hD hS => ?_)
        have hP : va_P D vwCl [(t, .inr (7, [.ref t_text_a, .int c_t_length])), (t_text_a, .inl (cB, 480, .inl c_t_text))] H := hP
        have hD : va_D A [(t, .inr (7, [.ref t_text_a, .int c_t_length])), (t_text_a, .inl (cB, 480, .inl c_t_text))] := hD
        refine lv_i2b hx hb dX7_append_57 rfl ?_
        refine k_bast hx hb hK hP hD hS 1 0 rfl rfl (gd_in hm) dX7_append_58 (fun f4 ef4 H locs hP hD hS => ?_)
        have hm := lt_at ef4 (gd_go hm)
        have hP : va_P D vwCl [(t, .inr (7, [.ref t_text_a, .int c_t_length])), (t_text_a, .inl (cB, 480, .inl f4))] H := hP
        have hD : va_D A [(t, .inr (7, [.ref t_text_a, .int c_t_length])), (t_text_a, .inl (cB, 480, .inl f4))] := hD
        refine lv_aload_n hx hb dX7_append_59 rfl (lv_at hl 1 rfl) ?_
        refine lv_dup hx hb dX7_append_60 rfl ?_
        refine va_get (D := D) (ci := 7) (v := .int c_t_length) (C := RX7) (T := TX7) (N := 2) hx hb hts in_X7 hown hK hP 0 rfl rfl 1 (by decide) (hts _ kf_X7_13) (fun _ h9 => h9) rfl dX7_append_61 ?_
        refine lv_iconst (v := (1 : Int32)) hx hb dX7_append_64 (by decide) ?_
        refine lv_iadd hx hb dX7_append_65 ?_
        refine lv_topi (fun v5 ev5 => ?_)
        have hm := lt_at ev5 hm
        refine va_put (D := D) (ci := 7) (v := .int v5) (ty := .int) (C := RX7) (T := TX7) (N := 2) hx hb hts in_X7 tyX7 tyX7_ok nmX7 hown hK hP hD hS 0 rfl rfl 1 (by decide) (hts _ kf_X7_13) (fun _ h9 => h9) rfl (by decide +kernel) rfl rfl (Nat.le_of_ble_eq_true rfl) dX7_append_66 (fun H locs hP hD hS => ?_)
        have hP : va_P D vwCl [(t, .inr (7, [.ref t_text_a, .int v5])), (t_text_a, .inl (cB, 480, .inl f4))] H := hP
        have hD : va_D A [(t, .inr (7, [.ref t_text_a, .int v5])), (t_text_a, .inl (cB, 480, .inl f4))] := hD
        obtain ⟨v6, ev6⟩ : ∃ y : Int32, y = y4 + (-1 : Int32) := ⟨_, rfl⟩
        have hm := lt_at ev6 hm
        refine lv_iinc (v := v6) (lv' := [(4, .int v6), (0, .ref t), (1, .long w1)]) hx hb dX7_append_69 hl (k := 0) rfl (by rw [ev6]; rfl) (by decide) rfl (fun ls hl => ?_)
        refine lv_goto (tgt := 38) hx hb dX7_append_72 (by decide) ?_
        exact ih v6 f4 v5 z hm hE H locs ls hP hD hS (lv_sub hl [0, 1, 2] rfl)
  unfold M_Tape_append at hm
  obtain ⟨H, eH⟩ : ∃ H, H = s.heap := ⟨_, rfl⟩
  obtain ⟨locs, el⟩ : ∃ x : List Loc, x = [] := ⟨_, rfl⟩
  have hP : va_P D vwCl [(t, .inr (7, [.ref t_text_a, .int t_length])), (t_text_a, .inl (cB, 480, .inl t_text))] H := eH ▸ hP
  have hS : va_S A s.heap H locs := by rw [eH, el]; exact hS
  suffices hW : W p l e { frames := 2, cells := 0, slots := 0, locals := 46 } s m args below meth c H locs 0 0 Q (F0 m 0 ls []) by rw [eH, el] at hW; exact hW
  clear eH el
  refine lv_iload_n hx hb dX7_append_0 rfl (lv_at hl 2 rfl) ?_
  refine lv_iconst (v := (1 : Int32)) hx hb dX7_append_1 (by decide) ?_
  refine lv_icmp_lt (tgt := 31) hx hb dX7_append_2 (by decide) (fun hc => ?_) (fun hc => ?_)
  · have hm := if_t hc hm
    refine lv_iconst (v := (0 : Int32)) hx hb dX7_append_31 (by decide) ?_
    have ho := Option.some.inj hm
    exact k_zret (by decide +kernel) hx hb hr hlocks hK hP hD hS dX7_append_32 hQ (by rw [← ho]) (by rw [← ho])
  · have hm := if_f hc hm
    refine lv_iload_n hx hb dX7_append_5 rfl (lv_at hl 2 rfl) ?_
    refine lv_bipush (v := (8 : Int32)) hx hb dX7_append_6 (by decide) ?_
    refine lv_icmp_gt (tgt := 31) hx hb dX7_append_8 (by decide) (fun hc => ?_) (fun hc => ?_)
    · have hm := if_t hc hm
      refine lv_iconst (v := (0 : Int32)) hx hb dX7_append_31 (by decide) ?_
      have ho := Option.some.inj hm
      exact k_zret (by decide +kernel) hx hb hr hlocks hK hP hD hS dX7_append_32 hQ (by rw [← ho]) (by rw [← ho])
    · have hm := if_f hc hm
      refine lv_aload_n hx hb dX7_append_11 rfl (lv_at hl 0 rfl) ?_
      refine va_get (D := D) (ci := 7) (v := .int t_length) (C := RX7) (T := TX7) (N := 2) hx hb hts in_X7 hown hK hP 0 rfl rfl 1 (by decide) (hts _ kf_X7_13) (fun _ h9 => h9) rfl dX7_append_12 ?_
      refine lv_iload_n hx hb dX7_append_15 rfl (lv_at hl 2 rfl) ?_
      refine lv_iadd hx hb dX7_append_16 ?_
      refine lv_sipush (v := (480 : Int32)) hx hb dX7_append_17 (by decide) ?_
      refine lv_icmp_gt (tgt := 31) hx hb dX7_append_20 (by decide) (fun hc => ?_) (fun hc => ?_)
      · have hm := if_t hc hm
        refine lv_iconst (v := (0 : Int32)) hx hb dX7_append_31 (by decide) ?_
        have ho := Option.some.inj hm
        exact k_zret (by decide +kernel) hx hb hr hlocks hK hP hD hS dX7_append_32 hQ (by rw [← ho]) (by rw [← ho])
      · have hm := if_f hc hm
        refine lv_lload_n hx hb dX7_append_23 rfl (lv_at hl 1 rfl) ?_
        refine lv_iload_n hx hb dX7_append_24 rfl (lv_at hl 2 rfl) ?_
        obtain ⟨z1, hz1, hm⟩ := bd_at hm
        refine k_callS (As := [.long x0, .int x1]) (rest := []) (wr := [(t, .inr (7, [.ref t_text_a, .int t_length])), (t_text_a, .inl (cB, 480, .inl t_text))]) (ws1 := [(t, .inr (7, [.ref t_text_a, .int t_length])), (t_text_a, .inl (cB, 480, .inl t_text))]) [] [0, 1] [0, 1] (K_Tape_isPrintable l D cB cI cZ cJ x0 x1 F z1 hz1) ms_X7_isPrintable km_X7_17 hx hb hml hown hts hK hP hD hS hA hl.1 ⟨Nat.zero_le _, Nat.zero_le _⟩ dX7_append_25 rfl rfl (Nat.le_of_ble_eq_true rfl) ⟨⟨rfl, rfl⟩, Nat.le_of_ble_eq_true rfl, Nat.le_of_ble_eq_true rfl⟩ rfl rfl (by decide) rfl (fun H locs hP hD hS => ?_)
        have hP : va_P D vwCl [(t, .inr (7, [.ref t_text_a, .int t_length])), (t_text_a, .inl (cB, 480, .inl t_text))] H := hP
        have hD : va_D A [(t, .inr (7, [.ref t_text_a, .int t_length])), (t_text_a, .inl (cB, 480, .inl t_text))] := hD
        refine lv_if_ne (tgt := 33) hx hb dX7_append_28 (by decide) (fun hc => ?_) (fun hc => ?_)
        · have hm := if_f hc hm
          refine lv_iload_n hx hb dX7_append_33 rfl (lv_at hl 2 rfl) ?_
          refine lv_iconst (v := (1 : Int32)) hx hb dX7_append_34 (by decide) ?_
          refine lv_isub hx hb dX7_append_35 ?_
          refine lv_topi (fun v2 ev2 => ?_)
          have hm := lt_at ev2 hm
          refine lv_istore (lv' := [(4, .int v2), (0, .ref t), (1, .long x0), (3, .int x1)]) hx hb dX7_append_36 hl (by decide) rfl (fun ls hl => ?_)
          obtain ⟨z7, hz7, hm⟩ := bd_at hm
          refine L38 x0 F v2 t_text t_length z7 hz7 (fun H locs ls hP hD hS hl => ?_) H locs ls hP hD hS (lv_sub hl [0, 1, 2] rfl)
          refine lv_iconst (v := (1 : Int32)) hx hb dX7_append_75 (by decide) ?_
          have ho := Option.some.inj hm
          exact k_zret (by decide +kernel) hx hb hr hlocks hK hP hD hS dX7_append_76 hQ (by rw [← ho]) (by rw [← ho])
        · have hm := if_t hc hm
          refine lv_iconst (v := (0 : Int32)) hx hb dX7_append_31 (by decide) ?_
          have ho := Option.some.inj hm
          exact k_zret (by decide +kernel) hx hb hr hlocks hK hP hD hS dX7_append_32 hQ (by rw [← ho]) (by rw [← ho])
