abbrev rmX5_byteAt : Room := { frames := 0, cells := 0, slots := 0, locals := 0 }
set_option maxRecDepth 20000 in
theorem uX5_byteAt_X5 : ∀ w ∈ wsX50, w ∈ wsX5_byteAt := by decide +kernel
set_option maxRecDepth 20000 in
theorem mX5_byteAt_0 : (Cond.fieldLink RX5 67 "TradeWheelModel" "typed" "I" : Cond) ∈ wsX5_byteAt := by decide +kernel
set_option maxRecDepth 20000 in
theorem mX5_byteAt_1 : (Cond.fieldLink RX5 7 "TradeWheelModel" "text" "[I" : Cond) ∈ wsX5_byteAt := by decide +kernel
set_option maxHeartbeats 4000000 in
set_option maxRecDepth 100000 in
theorem kX5_byteAt (l : Launch) (dC : Nat → ClassId) (dI : Nat → Nat → Nat) (Z : gZ) (cC cI cZ cW : ClassId) (a_o a_o_text a_o_need a_o_made a_o_skillTold a_o_placeTold a_o_skips a_o_wheelTold a_o_tunes a_o_s a_o_spare a_o_kept a_o_isKept a_o_makes a_o_works a_o_order : Nat) (sz : Nat) (o_thrown : Int32) (o_trace : Int64) (o_typed : Int32) (o_next : Int32) (o_token : Int32) (o_place : Int32) (o_value : Int32) (o_fault : Int32) (o_trades : Int32) (o_people : Int32) (o_draftTrades : Int32) (o_draftPeople : Int32) (o_isShut : Int32) (o_falling : Int32) (o_text : Nat → Int32) (i1 : Int32) (N : Nat) (r' : Int32) (hf : fX5_byteAt N o_typed o_text  i1 = some r') : Met l yX5_byteAt wsX5_byteAt rmX5_byteAt (va_Pc [.ref a_o, .int i1] (gB (dC, dI) Z [(cC, .char), (cI, .int), (cZ, .boolean), (cW, .object RX3)] [(a_o, .inr (5, [.int o_thrown, .long o_trace, .ref a_o_text, .int o_typed, .int o_next, .int o_token, .int o_place, .int o_value, .int o_fault, .ref a_o_need, .ref a_o_made, .ref a_o_skillTold, .ref a_o_placeTold, .ref a_o_skips, .ref a_o_wheelTold, .int o_trades, .int o_people, .int o_draftTrades, .int o_draftPeople, .int o_isShut, .ref a_o_tunes, .ref a_o_s, .ref a_o_spare, .ref a_o_kept, .ref a_o_isKept, .ref a_o_makes, .ref a_o_works, .ref a_o_order, .int o_falling])), (a_o_text, .inl (cI, 400, .inl o_text))] sz)) (va_Qi (fun (r : Int32) (_ : Unit) => r = r') (gE (dC, dI) [(a_o, .inr (5, [.int o_thrown, .long o_trace, .ref a_o_text, .int o_typed, .int o_next, .int o_token, .int o_place, .int o_value, .int o_fault, .ref a_o_need, .ref a_o_made, .ref a_o_skillTold, .ref a_o_placeTold, .ref a_o_skips, .ref a_o_wheelTold, .int o_trades, .int o_people, .int o_draftTrades, .int o_draftPeople, .int o_isShut, .ref a_o_tunes, .ref a_o_s, .ref a_o_spare, .ref a_o_kept, .ref a_o_isKept, .ref a_o_makes, .ref a_o_works, .ref a_o_order, .int o_falling])), (a_o_text, .inl (cI, 400, .inl o_text))]) (va_A [(a_o, .inr (5, [.int o_thrown, .long o_trace, .ref a_o_text, .int o_typed, .int o_next, .int o_token, .int o_place, .int o_value, .int o_fault, .ref a_o_need, .ref a_o_made, .ref a_o_skillTold, .ref a_o_placeTold, .ref a_o_skips, .ref a_o_wheelTold, .int o_trades, .int o_people, .int o_draftTrades, .int o_draftPeople, .int o_isShut, .ref a_o_tunes, .ref a_o_s, .ref a_o_spare, .ref a_o_kept, .ref a_o_isKept, .ref a_o_makes, .ref a_o_works, .ref a_o_order, .int o_falling])), (a_o_text, .inl (cI, 400, .inl o_text))] sz)) 0 0 (va_A [(a_o, .inr (5, [.int o_thrown, .long o_trace, .ref a_o_text, .int o_typed, .int o_next, .int o_token, .int o_place, .int o_value, .int o_fault, .ref a_o_need, .ref a_o_made, .ref a_o_skillTold, .ref a_o_placeTold, .ref a_o_skips, .ref a_o_wheelTold, .int o_trades, .int o_people, .int o_draftTrades, .int o_draftPeople, .int o_isShut, .ref a_o_tunes, .ref a_o_s, .ref a_o_spare, .ref a_o_kept, .ref a_o_isKept, .ref a_o_makes, .ref a_o_works, .ref a_o_order, .int o_falling])), (a_o_text, .inl (cI, 400, .inl o_text))] sz) := by
  refine gMet (cc := cX5_byteAt) (maxL := 2) (ret := (some .int)) (Qc := fun A => va_Qi (fun (r : Int32) (_ : Unit) => r = r') (gE (dC, dI) [(a_o, .inr (5, [.int o_thrown, .long o_trace, .ref a_o_text, .int o_typed, .int o_next, .int o_token, .int o_place, .int o_value, .int o_fault, .ref a_o_need, .ref a_o_made, .ref a_o_skillTold, .ref a_o_placeTold, .ref a_o_skips, .ref a_o_wheelTold, .int o_trades, .int o_people, .int o_draftTrades, .int o_draftPeople, .int o_isShut, .ref a_o_tunes, .ref a_o_s, .ref a_o_spare, .ref a_o_kept, .ref a_o_isKept, .ref a_o_makes, .ref a_o_works, .ref a_o_order, .int o_falling])), (a_o_text, .inl (cI, 400, .inl o_text))]) A) (by decide) rfl (Nat.le_of_ble_eq_true rfl) ?_
  intro p e s m below meth c A ls hg0 _ hsz hP hD hS hl
  have hg0 : gX p s m _ meth c cX5_byteAt 2 (some .int) wsX5_byteAt RX5 (dC, dI) Z [(cC, .char), (cI, .int), (cZ, .boolean), (cW, .object RX3)] A := hg0
  obtain ⟨hx, hb, hr, hml, hown, hts, hlocks, hA, hK, hN⟩ := id hg0
  subst hsz
  have hF : CallFix p m c cX5_byteAt 2 s _ wsX5_byteAt RX5 := ⟨hx, hb, hml, hown, hts⟩
  have hl : lv_has ls 2 [(0, .ref a_o), (1, .int i1)] := hl
  unfold fX5_byteAt at hf
  refine lv_iload_n hx hb dX5_byteAt_0 rfl (lv_at hl 1 rfl) ?_
  refine lv_aload_n hx hb dX5_byteAt_1 rfl (lv_at hl 0 rfl) ?_
  refine va_get (D := (dC, dI)) (ci := 5) (v := .int o_typed) (C := RX5) (T := TX5) (N := 29) hx hb hts uX5_byteAt_X5 hown hK hP 0 rfl rfl 3 (by decide) (hts _ mX5_byteAt_0) (fun _ h9 => h9) rfl dX5_byteAt_2 ?_
  refine lv_icmp_ge (tgt := 17) hx hb dX5_byteAt_5 (by decide) (fun c_1 => ?_) (fun c_1 => ?_)
  · have hf := pit hf c_1
    refine lv_iconst (v := (-1 : Int32)) hx hb dX5_byteAt_17 (by decide) ?_
    have q0 := Option.some.inj hf
    subst q0
    exact gRi hx hb hr hlocks hP hS dX5_byteAt_18
  · have hf := pif hf c_1
    refine lv_aload_n hx hb dX5_byteAt_8 rfl (lv_at hl 0 rfl) ?_
    refine va_get (D := (dC, dI)) (ci := 5) (v := .ref a_o_text) (C := RX5) (T := TX5) (N := 29) hx hb hts uX5_byteAt_X5 hown hK hP 0 rfl rfl 2 (by decide) (hts _ mX5_byteAt_1) (fun _ h9 => h9) rfl dX5_byteAt_9 ?_
    refine lv_iload_n hx hb dX5_byteAt_12 rfl (lv_at hl 1 rfl) ?_
    obtain ⟨h_2, hf⟩ := pgd hf
    refine va_iald hx hb hK hP 1 1 rfl rfl h_2 dX5_byteAt_13 ?_
    refine lv_goto (tgt := 18) hx hb dX5_byteAt_14 (by decide) ?_
    have q0 := Option.some.inj hf
    subst q0
    exact gRi hx hb hr hlocks hP hS dX5_byteAt_18
abbrev rmX5_add : Room := { frames := 0, cells := 0, slots := 0, locals := 0 }
set_option maxRecDepth 20000 in
theorem mX5_add_0 : (Cond.constantLong RX5 72 (256) : Cond) ∈ wsX5_add := by decide +kernel
set_option maxHeartbeats 4000000 in
set_option maxRecDepth 100000 in
theorem kX5_add (l : Launch) (dC : Nat → ClassId) (dI : Nat → Nat → Nat) (Z : gZ) (cC cI cZ cW : ClassId)  (sz : Nat)  (j0 : Int64) (i2 : Int32) (N : Nat) (r' : Int64) (hf : fX5_add N   j0 i2 = some r') : Met l yX5_add wsX5_add rmX5_add (va_Pc [.long j0, .int i2] (gB (dC, dI) Z [(cC, .char), (cI, .int), (cZ, .boolean), (cW, .object RX3)] [] sz)) (va_Ql (fun (r : Int64) (_ : Unit) => r = r') (gE (dC, dI) []) (va_A [] sz)) 0 0 (va_A [] sz) := by
  refine gMet (cc := cX5_add) (maxL := 3) (ret := (some .long)) (Qc := fun A => va_Ql (fun (r : Int64) (_ : Unit) => r = r') (gE (dC, dI) []) A) (by decide) rfl (Nat.le_of_ble_eq_true rfl) ?_
  intro p e s m below meth c A ls hg0 _ hsz hP hD hS hl
  have hg0 : gX p s m _ meth c cX5_add 3 (some .long) wsX5_add RX5 (dC, dI) Z [(cC, .char), (cI, .int), (cZ, .boolean), (cW, .object RX3)] A := hg0
  obtain ⟨hx, hb, hr, hml, hown, hts, hlocks, hA, hK, hN⟩ := id hg0
  subst hsz
  have hF : CallFix p m c cX5_add 3 s _ wsX5_add RX5 := ⟨hx, hb, hml, hown, hts⟩
  have hl : lv_has ls 3 [(0, .long j0), (2, .int i2)] := hl
  unfold fX5_add at hf
  refine lv_iload_n hx hb dX5_add_0 rfl (lv_at hl 1 rfl) ?_
  refine lv_if_ne (tgt := 8) hx hb dX5_add_1 (by decide) (fun c_1 => ?_) (fun c_1 => ?_)
  · have hf := pif hf c_1
    refine lv_ldc2 (v := (256 : Int64)) hx hb hown (hts _ mX5_add_0) dX5_add_8 ?_
    refine lv_lload_n hx hb dX5_add_11 rfl (lv_at hl 0 rfl) ?_
    refine lv_lmul hx hb dX5_add_12 ?_
    refine lv_iload_n hx hb dX5_add_13 rfl (lv_at hl 1 rfl) ?_
    refine lv_i2l (v := i2.toInt64) hx hb dX5_add_14 rfl ?_
    refine lv_ladd hx hb dX5_add_15 ?_
    have q0 := Option.some.inj hf
    subst q0
    exact gRl hx hb hr hlocks hP hS dX5_add_16
  · have hf := pit hf c_1
    refine lv_lload_n hx hb dX5_add_4 rfl (lv_at hl 0 rfl) ?_
    refine lv_goto (tgt := 16) hx hb dX5_add_5 (by decide) ?_
    have q0 := Option.some.inj hf
    subst q0
    exact gRl hx hb hr hlocks hP hS dX5_add_16
abbrev rmX5_named : Room := { frames := 1, cells := 0, slots := 0, locals := 22 }
set_option maxHeartbeats 4000000 in
set_option maxRecDepth 100000 in
theorem kX5_named (l : Launch) (dC : Nat → ClassId) (dI : Nat → Nat → Nat) (Z : gZ) (cC cI cZ cW : ClassId)  (sz : Nat)  (i0 : Int32) (i1 : Int32) (i2 : Int32) (i3 : Int32) (i4 : Int32) (i5 : Int32) (N : Nat) (r' : Int64) (hf : fX5_named N   i0 i1 i2 i3 i4 i5 = some r') : Met l yX5_named wsX5_named rmX5_named (va_Pc [.int i0, .int i1, .int i2, .int i3, .int i4, .int i5] (gB (dC, dI) Z [(cC, .char), (cI, .int), (cZ, .boolean), (cW, .object RX3)] [] sz)) (va_Ql (fun (r : Int64) (_ : Unit) => r = r') (gE (dC, dI) []) (va_A [] sz)) 0 0 (va_A [] sz) := by
  refine gMet (cc := cX5_named) (maxL := 6) (ret := (some .long)) (Qc := fun A => va_Ql (fun (r : Int64) (_ : Unit) => r = r') (gE (dC, dI) []) A) (by decide) rfl (Nat.le_of_ble_eq_true rfl) ?_
  intro p e s m below meth c A ls hg0 _ hsz hP hD hS hl
  have hg0 : gX p s m _ meth c cX5_named 6 (some .long) wsX5_named RX5 (dC, dI) Z [(cC, .char), (cI, .int), (cZ, .boolean), (cW, .object RX3)] A := hg0
  obtain ⟨hx, hb, hr, hml, hown, hts, hlocks, hA, hK, hN⟩ := id hg0
  subst hsz
  have hF : CallFix p m c cX5_named 6 s _ wsX5_named RX5 := ⟨hx, hb, hml, hown, hts⟩
  have hl : lv_has ls 6 [(0, .int i0), (1, .int i1), (2, .int i2), (3, .int i3), (4, .int i4), (5, .int i5)] := hl
  unfold fX5_named at hf
  refine lv_lconst (v := (0 : Int64)) hx hb dX5_named_0 (by decide) ?_
  refine lv_iload_n hx hb dX5_named_1 rfl (lv_at hl 0 rfl) ?_
  obtain ⟨r_1, hc, hf⟩ := pb1 hf
  refine gCl (va_runS (As := [.long (0 : Int64), .int i0]) (rest := []) hF (kX5_add l dC dI Z cC cI cZ cW  _  (0 : Int64) i0 N r_1 hc) (cwS 2 hts gX5_named_X5_add rfl rfl rfl (by decide +kernel) ⟨Nat.le_of_ble_eq_true rfl, Nat.le_of_ble_eq_true rfl⟩) (gPS (wc := []) hK hN hA hS hP hD [] rfl rfl) rfl rfl hl.1 rfl (lv_room (Nat.le_of_ble_eq_true rfl)) dX5_named_2 ⟨Nat.zero_le _, Nat.zero_le _⟩) hP hD hS hA [] rfl rfl rfl (fun H locs hP hD hS => ?_)
  refine lv_iload_n hx hb dX5_named_5 rfl (lv_at hl 1 rfl) ?_
  obtain ⟨r_2, hc, hf⟩ := pb1 hf
  refine gCl (va_runS (As := [.long r_1, .int i1]) (rest := []) hF (kX5_add l dC dI Z cC cI cZ cW  _  r_1 i1 N r_2 hc) (cwS 2 hts gX5_named_X5_add rfl rfl rfl (by decide +kernel) ⟨Nat.le_of_ble_eq_true rfl, Nat.le_of_ble_eq_true rfl⟩) (gPS (wc := []) hK hN hA hS hP hD [] rfl rfl) rfl rfl hl.1 rfl (lv_room (Nat.le_of_ble_eq_true rfl)) dX5_named_6 ⟨Nat.zero_le _, Nat.zero_le _⟩) hP hD hS hA [] rfl rfl rfl (fun H locs hP hD hS => ?_)
  refine lv_iload_n hx hb dX5_named_9 rfl (lv_at hl 2 rfl) ?_
  obtain ⟨r_3, hc, hf⟩ := pb1 hf
  refine gCl (va_runS (As := [.long r_2, .int i2]) (rest := []) hF (kX5_add l dC dI Z cC cI cZ cW  _  r_2 i2 N r_3 hc) (cwS 2 hts gX5_named_X5_add rfl rfl rfl (by decide +kernel) ⟨Nat.le_of_ble_eq_true rfl, Nat.le_of_ble_eq_true rfl⟩) (gPS (wc := []) hK hN hA hS hP hD [] rfl rfl) rfl rfl hl.1 rfl (lv_room (Nat.le_of_ble_eq_true rfl)) dX5_named_10 ⟨Nat.zero_le _, Nat.zero_le _⟩) hP hD hS hA [] rfl rfl rfl (fun H locs hP hD hS => ?_)
  refine lv_iload_n hx hb dX5_named_13 rfl (lv_at hl 3 rfl) ?_
  obtain ⟨r_4, hc, hf⟩ := pb1 hf
  refine gCl (va_runS (As := [.long r_3, .int i3]) (rest := []) hF (kX5_add l dC dI Z cC cI cZ cW  _  r_3 i3 N r_4 hc) (cwS 2 hts gX5_named_X5_add rfl rfl rfl (by decide +kernel) ⟨Nat.le_of_ble_eq_true rfl, Nat.le_of_ble_eq_true rfl⟩) (gPS (wc := []) hK hN hA hS hP hD [] rfl rfl) rfl rfl hl.1 rfl (lv_room (Nat.le_of_ble_eq_true rfl)) dX5_named_14 ⟨Nat.zero_le _, Nat.zero_le _⟩) hP hD hS hA [] rfl rfl rfl (fun H locs hP hD hS => ?_)
  refine lv_iload hx hb dX5_named_17 (lv_at hl 4 rfl) ?_
  obtain ⟨r_5, hc, hf⟩ := pb1 hf
  refine gCl (va_runS (As := [.long r_4, .int i4]) (rest := []) hF (kX5_add l dC dI Z cC cI cZ cW  _  r_4 i4 N r_5 hc) (cwS 2 hts gX5_named_X5_add rfl rfl rfl (by decide +kernel) ⟨Nat.le_of_ble_eq_true rfl, Nat.le_of_ble_eq_true rfl⟩) (gPS (wc := []) hK hN hA hS hP hD [] rfl rfl) rfl rfl hl.1 rfl (lv_room (Nat.le_of_ble_eq_true rfl)) dX5_named_19 ⟨Nat.zero_le _, Nat.zero_le _⟩) hP hD hS hA [] rfl rfl rfl (fun H locs hP hD hS => ?_)
  refine lv_iload hx hb dX5_named_22 (lv_at hl 5 rfl) ?_
  obtain ⟨r_6, hc, hf⟩ := pb1 hf
  refine gCl (va_runS (As := [.long r_5, .int i5]) (rest := []) hF (kX5_add l dC dI Z cC cI cZ cW  _  r_5 i5 N r_6 hc) (cwS 2 hts gX5_named_X5_add rfl rfl rfl (by decide +kernel) ⟨Nat.le_of_ble_eq_true rfl, Nat.le_of_ble_eq_true rfl⟩) (gPS (wc := []) hK hN hA hS hP hD [] rfl rfl) rfl rfl hl.1 rfl (lv_room (Nat.le_of_ble_eq_true rfl)) dX5_named_24 ⟨Nat.zero_le _, Nat.zero_le _⟩) hP hD hS hA [] rfl rfl rfl (fun H locs hP hD hS => ?_)
  have q0 := Option.some.inj hf
  subst q0
  exact gRl hx hb hr hlocks hP hS dX5_named_27
abbrev rmX5_wordOf : Room := { frames := 2, cells := 0, slots := 0, locals := 47 }
set_option maxHeartbeats 4000000 in
set_option maxRecDepth 100000 in
theorem kX5_wordOf (l : Launch) (dC : Nat → ClassId) (dI : Nat → Nat → Nat) (Z : gZ) (cC cI cZ cW : ClassId)  (sz : Nat)  (j0 : Int64) (N : Nat) (r' : Int32) (hf : fX5_wordOf N   j0 = some r') : Met l yX5_wordOf wsX5_wordOf rmX5_wordOf (va_Pc [.long j0] (gB (dC, dI) Z [(cC, .char), (cI, .int), (cZ, .boolean), (cW, .object RX3)] [] sz)) (va_Qi (fun (r : Int32) (_ : Unit) => r = r') (gE (dC, dI) []) (va_A [] sz)) 0 0 (va_A [] sz) := by
  refine gMet (cc := cX5_wordOf) (maxL := 3) (ret := (some .int)) (Qc := fun A => va_Qi (fun (r : Int32) (_ : Unit) => r = r') (gE (dC, dI) []) A) (by decide) rfl (Nat.le_of_ble_eq_true rfl) ?_
  intro p e s m below meth c A ls hg0 _ hsz hP hD hS hl
  have hg0 : gX p s m _ meth c cX5_wordOf 3 (some .int) wsX5_wordOf RX5 (dC, dI) Z [(cC, .char), (cI, .int), (cZ, .boolean), (cW, .object RX3)] A := hg0
  obtain ⟨hx, hb, hr, hml, hown, hts, hlocks, hA, hK, hN⟩ := id hg0
  subst hsz
  have hF : CallFix p m c cX5_wordOf 3 s _ wsX5_wordOf RX5 := ⟨hx, hb, hml, hown, hts⟩
  have hl : lv_has ls 3 [(0, .long j0)] := hl
  unfold fX5_wordOf at hf
  refine lv_lload_n hx hb dX5_wordOf_0 rfl (lv_at hl 0 rfl) ?_
  refine lv_bipush (v := (116 : Int32)) hx hb dX5_wordOf_1 (by decide) ?_
  refine lv_bipush (v := (114 : Int32)) hx hb dX5_wordOf_3 (by decide) ?_
  refine lv_bipush (v := (97 : Int32)) hx hb dX5_wordOf_5 (by decide) ?_
  refine lv_bipush (v := (100 : Int32)) hx hb dX5_wordOf_7 (by decide) ?_
  refine lv_bipush (v := (101 : Int32)) hx hb dX5_wordOf_9 (by decide) ?_
  refine lv_iconst (v := (0 : Int32)) hx hb dX5_wordOf_11 (by decide) ?_
  obtain ⟨r_1, hc, hf⟩ := pb1 hf
  refine gCl (va_runS (As := [.int (116 : Int32), .int (114 : Int32), .int (97 : Int32), .int (100 : Int32), .int (101 : Int32), .int (0 : Int32)]) (rest := [.long j0]) hF (kX5_named l dC dI Z cC cI cZ cW  _  (116 : Int32) (114 : Int32) (97 : Int32) (100 : Int32) (101 : Int32) (0 : Int32) N r_1 hc) (cwS 6 hts gX5_wordOf_X5_named rfl rfl rfl (by decide +kernel) ⟨Nat.le_of_ble_eq_true rfl, Nat.le_of_ble_eq_true rfl⟩) (gPS (wc := []) hK hN hA hS hP hD [] rfl rfl) rfl rfl hl.1 rfl (lv_room (Nat.le_of_ble_eq_true rfl)) dX5_wordOf_12 ⟨Nat.zero_le _, Nat.zero_le _⟩) hP hD hS hA [] rfl rfl rfl (fun H locs hP hD hS => ?_)
  refine W.lcmp hx hb dX5_wordOf_15 ?_
  refine lv_if_ne (tgt := 23) hx hb dX5_wordOf_16 (by decide) (fun c_2 => ?_) (fun c_2 => ?_)
  · have hf := pif hf c_2
    refine lv_lload_n hx hb dX5_wordOf_23 rfl (lv_at hl 0 rfl) ?_
    refine lv_bipush (v := (112 : Int32)) hx hb dX5_wordOf_24 (by decide) ?_
    refine lv_bipush (v := (101 : Int32)) hx hb dX5_wordOf_26 (by decide) ?_
    refine lv_bipush (v := (114 : Int32)) hx hb dX5_wordOf_28 (by decide) ?_
    refine lv_bipush (v := (115 : Int32)) hx hb dX5_wordOf_30 (by decide) ?_
    refine lv_bipush (v := (111 : Int32)) hx hb dX5_wordOf_32 (by decide) ?_
    refine lv_bipush (v := (110 : Int32)) hx hb dX5_wordOf_34 (by decide) ?_
    obtain ⟨r_3, hc, hf⟩ := pb1 hf
    refine gCl (va_runS (As := [.int (112 : Int32), .int (101 : Int32), .int (114 : Int32), .int (115 : Int32), .int (111 : Int32), .int (110 : Int32)]) (rest := [.long j0]) hF (kX5_named l dC dI Z cC cI cZ cW  _  (112 : Int32) (101 : Int32) (114 : Int32) (115 : Int32) (111 : Int32) (110 : Int32) N r_3 hc) (cwS 6 hts gX5_wordOf_X5_named rfl rfl rfl (by decide +kernel) ⟨Nat.le_of_ble_eq_true rfl, Nat.le_of_ble_eq_true rfl⟩) (gPS (wc := []) hK hN hA hS hP hD [] rfl rfl) rfl rfl hl.1 rfl (lv_room (Nat.le_of_ble_eq_true rfl)) dX5_wordOf_36 ⟨Nat.zero_le _, Nat.zero_le _⟩) hP hD hS hA [] rfl rfl rfl (fun H locs hP hD hS => ?_)
    refine W.lcmp hx hb dX5_wordOf_39 ?_
    refine lv_if_ne (tgt := 47) hx hb dX5_wordOf_40 (by decide) (fun c_4 => ?_) (fun c_4 => ?_)
    · have hf := pif hf c_4
      refine lv_lload_n hx hb dX5_wordOf_47 rfl (lv_at hl 0 rfl) ?_
      refine lv_bipush (v := (115 : Int32)) hx hb dX5_wordOf_48 (by decide) ?_
      refine lv_bipush (v := (107 : Int32)) hx hb dX5_wordOf_50 (by decide) ?_
      refine lv_bipush (v := (105 : Int32)) hx hb dX5_wordOf_52 (by decide) ?_
      refine lv_bipush (v := (108 : Int32)) hx hb dX5_wordOf_54 (by decide) ?_
      refine lv_bipush (v := (108 : Int32)) hx hb dX5_wordOf_56 (by decide) ?_
      refine lv_iconst (v := (0 : Int32)) hx hb dX5_wordOf_58 (by decide) ?_
      obtain ⟨r_5, hc, hf⟩ := pb1 hf
      refine gCl (va_runS (As := [.int (115 : Int32), .int (107 : Int32), .int (105 : Int32), .int (108 : Int32), .int (108 : Int32), .int (0 : Int32)]) (rest := [.long j0]) hF (kX5_named l dC dI Z cC cI cZ cW  _  (115 : Int32) (107 : Int32) (105 : Int32) (108 : Int32) (108 : Int32) (0 : Int32) N r_5 hc) (cwS 6 hts gX5_wordOf_X5_named rfl rfl rfl (by decide +kernel) ⟨Nat.le_of_ble_eq_true rfl, Nat.le_of_ble_eq_true rfl⟩) (gPS (wc := []) hK hN hA hS hP hD [] rfl rfl) rfl rfl hl.1 rfl (lv_room (Nat.le_of_ble_eq_true rfl)) dX5_wordOf_59 ⟨Nat.zero_le _, Nat.zero_le _⟩) hP hD hS hA [] rfl rfl rfl (fun H locs hP hD hS => ?_)
      refine W.lcmp hx hb dX5_wordOf_62 ?_
      refine lv_if_ne (tgt := 70) hx hb dX5_wordOf_63 (by decide) (fun c_6 => ?_) (fun c_6 => ?_)
      · have hf := pif hf c_6
        refine lv_bipush (v := (-9 : Int32)) hx hb dX5_wordOf_70 (by decide) ?_
        refine lv_istore_n (lv' := [(2, .int (-9 : Int32)), (0, .long j0)]) hx hb dX5_wordOf_72 rfl hl (by decide) rfl (fun ls hl => ?_)
        refine lv_iload_n hx hb dX5_wordOf_73 rfl (lv_at hl 0 rfl) ?_
        refine lv_bipush (v := (-9 : Int32)) hx hb dX5_wordOf_74 (by decide) ?_
        refine lv_icmp_eq (tgt := 83) hx hb dX5_wordOf_76 (by decide) (fun c_7 => ?_) (fun c_7 => ?_)
        · have hf := pit hf c_7
          refine lv_lload_n hx hb dX5_wordOf_83 rfl (lv_at hl 1 rfl) ?_
          refine lv_bipush (v := (115 : Int32)) hx hb dX5_wordOf_84 (by decide) ?_
          refine lv_bipush (v := (107 : Int32)) hx hb dX5_wordOf_86 (by decide) ?_
          refine lv_bipush (v := (105 : Int32)) hx hb dX5_wordOf_88 (by decide) ?_
          refine lv_bipush (v := (112 : Int32)) hx hb dX5_wordOf_90 (by decide) ?_
          refine lv_iconst (v := (0 : Int32)) hx hb dX5_wordOf_92 (by decide) ?_
          refine lv_iconst (v := (0 : Int32)) hx hb dX5_wordOf_93 (by decide) ?_
          obtain ⟨r_8, hc, hf⟩ := pb1 hf
          refine gCl (va_runS (As := [.int (115 : Int32), .int (107 : Int32), .int (105 : Int32), .int (112 : Int32), .int (0 : Int32), .int (0 : Int32)]) (rest := [.long j0]) hF (kX5_named l dC dI Z cC cI cZ cW  _  (115 : Int32) (107 : Int32) (105 : Int32) (112 : Int32) (0 : Int32) (0 : Int32) N r_8 hc) (cwS 6 hts gX5_wordOf_X5_named rfl rfl rfl (by decide +kernel) ⟨Nat.le_of_ble_eq_true rfl, Nat.le_of_ble_eq_true rfl⟩) (gPS (wc := []) hK hN hA hS hP hD [] rfl rfl) rfl rfl hl.1 rfl (lv_room (Nat.le_of_ble_eq_true rfl)) dX5_wordOf_94 ⟨Nat.zero_le _, Nat.zero_le _⟩) hP hD hS hA [] rfl rfl rfl (fun H locs hP hD hS => ?_)
          refine W.lcmp hx hb dX5_wordOf_97 ?_
          refine lv_if_ne (tgt := 105) hx hb dX5_wordOf_98 (by decide) (fun c_9 => ?_) (fun c_9 => ?_)
          · have hf := pif hf c_9
            refine lv_lload_n hx hb dX5_wordOf_105 rfl (lv_at hl 1 rfl) ?_
            refine lv_bipush (v := (97 : Int32)) hx hb dX5_wordOf_106 (by decide) ?_
            refine lv_bipush (v := (116 : Int32)) hx hb dX5_wordOf_108 (by decide) ?_
            refine lv_iconst (v := (0 : Int32)) hx hb dX5_wordOf_110 (by decide) ?_
            refine lv_iconst (v := (0 : Int32)) hx hb dX5_wordOf_111 (by decide) ?_
            refine lv_iconst (v := (0 : Int32)) hx hb dX5_wordOf_112 (by decide) ?_
            refine lv_iconst (v := (0 : Int32)) hx hb dX5_wordOf_113 (by decide) ?_
            obtain ⟨r_10, hc, hf⟩ := pb1 hf
            refine gCl (va_runS (As := [.int (97 : Int32), .int (116 : Int32), .int (0 : Int32), .int (0 : Int32), .int (0 : Int32), .int (0 : Int32)]) (rest := [.long j0]) hF (kX5_named l dC dI Z cC cI cZ cW  _  (97 : Int32) (116 : Int32) (0 : Int32) (0 : Int32) (0 : Int32) (0 : Int32) N r_10 hc) (cwS 6 hts gX5_wordOf_X5_named rfl rfl rfl (by decide +kernel) ⟨Nat.le_of_ble_eq_true rfl, Nat.le_of_ble_eq_true rfl⟩) (gPS (wc := []) hK hN hA hS hP hD [] rfl rfl) rfl rfl hl.1 rfl (lv_room (Nat.le_of_ble_eq_true rfl)) dX5_wordOf_114 ⟨Nat.zero_le _, Nat.zero_le _⟩) hP hD hS hA [] rfl rfl rfl (fun H locs hP hD hS => ?_)
            refine W.lcmp hx hb dX5_wordOf_117 ?_
            refine lv_if_ne (tgt := 125) hx hb dX5_wordOf_118 (by decide) (fun c_11 => ?_) (fun c_11 => ?_)
            · have hf := pif hf c_11
              refine lv_lload_n hx hb dX5_wordOf_125 rfl (lv_at hl 1 rfl) ?_
              refine lv_bipush (v := (119 : Int32)) hx hb dX5_wordOf_126 (by decide) ?_
              refine lv_bipush (v := (104 : Int32)) hx hb dX5_wordOf_128 (by decide) ?_
              refine lv_bipush (v := (101 : Int32)) hx hb dX5_wordOf_130 (by decide) ?_
              refine lv_bipush (v := (101 : Int32)) hx hb dX5_wordOf_132 (by decide) ?_
              refine lv_bipush (v := (108 : Int32)) hx hb dX5_wordOf_134 (by decide) ?_
              refine lv_iconst (v := (0 : Int32)) hx hb dX5_wordOf_136 (by decide) ?_
              obtain ⟨r_12, hc, hf⟩ := pb1 hf
              refine gCl (va_runS (As := [.int (119 : Int32), .int (104 : Int32), .int (101 : Int32), .int (101 : Int32), .int (108 : Int32), .int (0 : Int32)]) (rest := [.long j0]) hF (kX5_named l dC dI Z cC cI cZ cW  _  (119 : Int32) (104 : Int32) (101 : Int32) (101 : Int32) (108 : Int32) (0 : Int32) N r_12 hc) (cwS 6 hts gX5_wordOf_X5_named rfl rfl rfl (by decide +kernel) ⟨Nat.le_of_ble_eq_true rfl, Nat.le_of_ble_eq_true rfl⟩) (gPS (wc := []) hK hN hA hS hP hD [] rfl rfl) rfl rfl hl.1 rfl (lv_room (Nat.le_of_ble_eq_true rfl)) dX5_wordOf_137 ⟨Nat.zero_le _, Nat.zero_le _⟩) hP hD hS hA [] rfl rfl rfl (fun H locs hP hD hS => ?_)
              refine W.lcmp hx hb dX5_wordOf_140 ?_
              refine lv_if_ne (tgt := 148) hx hb dX5_wordOf_141 (by decide) (fun c_13 => ?_) (fun c_13 => ?_)
              · have hf := pif hf c_13
                refine lv_bipush (v := (-9 : Int32)) hx hb dX5_wordOf_148 (by decide) ?_
                have q0 := Option.some.inj hf
                subst q0
                exact gRi hx hb hr hlocks hP hS dX5_wordOf_150
              · have hf := pit hf c_13
                refine lv_iconst (v := (5 : Int32)) hx hb dX5_wordOf_144 (by decide) ?_
                refine lv_goto (tgt := 150) hx hb dX5_wordOf_145 (by decide) ?_
                have q0 := Option.some.inj hf
                subst q0
                exact gRi hx hb hr hlocks hP hS dX5_wordOf_150
            · have hf := pit hf c_11
              refine lv_iconst (v := (4 : Int32)) hx hb dX5_wordOf_121 (by decide) ?_
              refine lv_goto (tgt := 150) hx hb dX5_wordOf_122 (by decide) ?_
              have q0 := Option.some.inj hf
              subst q0
              exact gRi hx hb hr hlocks hP hS dX5_wordOf_150
          · have hf := pit hf c_9
            refine lv_iconst (v := (3 : Int32)) hx hb dX5_wordOf_101 (by decide) ?_
            refine lv_goto (tgt := 150) hx hb dX5_wordOf_102 (by decide) ?_
            have q0 := Option.some.inj hf
            subst q0
            exact gRi hx hb hr hlocks hP hS dX5_wordOf_150
        · have hf := pif hf c_7
          refine lv_iload_n hx hb dX5_wordOf_79 rfl (lv_at hl 0 rfl) ?_
          refine lv_goto (tgt := 150) hx hb dX5_wordOf_80 (by decide) ?_
          have q0 := Option.some.inj hf
          subst q0
          exact gRi hx hb hr hlocks hP hS dX5_wordOf_150
      · have hf := pit hf c_6
        refine lv_iconst (v := (2 : Int32)) hx hb dX5_wordOf_66 (by decide) ?_
        refine lv_goto (tgt := 72) hx hb dX5_wordOf_67 (by decide) ?_
        refine lv_istore_n (lv' := [(2, .int (2 : Int32)), (0, .long j0)]) hx hb dX5_wordOf_72 rfl hl (by decide) rfl (fun ls hl => ?_)
        refine lv_iload_n hx hb dX5_wordOf_73 rfl (lv_at hl 0 rfl) ?_
        refine lv_bipush (v := (-9 : Int32)) hx hb dX5_wordOf_74 (by decide) ?_
        refine lv_icmp_eq (tgt := 83) hx hb dX5_wordOf_76 (by decide) (fun c_14 => ?_) (fun c_14 => ?_)
        · have hf := pit hf c_14
          refine lv_lload_n hx hb dX5_wordOf_83 rfl (lv_at hl 1 rfl) ?_
          refine lv_bipush (v := (115 : Int32)) hx hb dX5_wordOf_84 (by decide) ?_
          refine lv_bipush (v := (107 : Int32)) hx hb dX5_wordOf_86 (by decide) ?_
          refine lv_bipush (v := (105 : Int32)) hx hb dX5_wordOf_88 (by decide) ?_
          refine lv_bipush (v := (112 : Int32)) hx hb dX5_wordOf_90 (by decide) ?_
          refine lv_iconst (v := (0 : Int32)) hx hb dX5_wordOf_92 (by decide) ?_
          refine lv_iconst (v := (0 : Int32)) hx hb dX5_wordOf_93 (by decide) ?_
          obtain ⟨r_15, hc, hf⟩ := pb1 hf
          refine gCl (va_runS (As := [.int (115 : Int32), .int (107 : Int32), .int (105 : Int32), .int (112 : Int32), .int (0 : Int32), .int (0 : Int32)]) (rest := [.long j0]) hF (kX5_named l dC dI Z cC cI cZ cW  _  (115 : Int32) (107 : Int32) (105 : Int32) (112 : Int32) (0 : Int32) (0 : Int32) N r_15 hc) (cwS 6 hts gX5_wordOf_X5_named rfl rfl rfl (by decide +kernel) ⟨Nat.le_of_ble_eq_true rfl, Nat.le_of_ble_eq_true rfl⟩) (gPS (wc := []) hK hN hA hS hP hD [] rfl rfl) rfl rfl hl.1 rfl (lv_room (Nat.le_of_ble_eq_true rfl)) dX5_wordOf_94 ⟨Nat.zero_le _, Nat.zero_le _⟩) hP hD hS hA [] rfl rfl rfl (fun H locs hP hD hS => ?_)
          refine W.lcmp hx hb dX5_wordOf_97 ?_
          refine lv_if_ne (tgt := 105) hx hb dX5_wordOf_98 (by decide) (fun c_16 => ?_) (fun c_16 => ?_)
          · have hf := pif hf c_16
            refine lv_lload_n hx hb dX5_wordOf_105 rfl (lv_at hl 1 rfl) ?_
            refine lv_bipush (v := (97 : Int32)) hx hb dX5_wordOf_106 (by decide) ?_
            refine lv_bipush (v := (116 : Int32)) hx hb dX5_wordOf_108 (by decide) ?_
            refine lv_iconst (v := (0 : Int32)) hx hb dX5_wordOf_110 (by decide) ?_
            refine lv_iconst (v := (0 : Int32)) hx hb dX5_wordOf_111 (by decide) ?_
            refine lv_iconst (v := (0 : Int32)) hx hb dX5_wordOf_112 (by decide) ?_
            refine lv_iconst (v := (0 : Int32)) hx hb dX5_wordOf_113 (by decide) ?_
            obtain ⟨r_17, hc, hf⟩ := pb1 hf
            refine gCl (va_runS (As := [.int (97 : Int32), .int (116 : Int32), .int (0 : Int32), .int (0 : Int32), .int (0 : Int32), .int (0 : Int32)]) (rest := [.long j0]) hF (kX5_named l dC dI Z cC cI cZ cW  _  (97 : Int32) (116 : Int32) (0 : Int32) (0 : Int32) (0 : Int32) (0 : Int32) N r_17 hc) (cwS 6 hts gX5_wordOf_X5_named rfl rfl rfl (by decide +kernel) ⟨Nat.le_of_ble_eq_true rfl, Nat.le_of_ble_eq_true rfl⟩) (gPS (wc := []) hK hN hA hS hP hD [] rfl rfl) rfl rfl hl.1 rfl (lv_room (Nat.le_of_ble_eq_true rfl)) dX5_wordOf_114 ⟨Nat.zero_le _, Nat.zero_le _⟩) hP hD hS hA [] rfl rfl rfl (fun H locs hP hD hS => ?_)
            refine W.lcmp hx hb dX5_wordOf_117 ?_
            refine lv_if_ne (tgt := 125) hx hb dX5_wordOf_118 (by decide) (fun c_18 => ?_) (fun c_18 => ?_)
            · have hf := pif hf c_18
              refine lv_lload_n hx hb dX5_wordOf_125 rfl (lv_at hl 1 rfl) ?_
              refine lv_bipush (v := (119 : Int32)) hx hb dX5_wordOf_126 (by decide) ?_
              refine lv_bipush (v := (104 : Int32)) hx hb dX5_wordOf_128 (by decide) ?_
              refine lv_bipush (v := (101 : Int32)) hx hb dX5_wordOf_130 (by decide) ?_
              refine lv_bipush (v := (101 : Int32)) hx hb dX5_wordOf_132 (by decide) ?_
              refine lv_bipush (v := (108 : Int32)) hx hb dX5_wordOf_134 (by decide) ?_
              refine lv_iconst (v := (0 : Int32)) hx hb dX5_wordOf_136 (by decide) ?_
              obtain ⟨r_19, hc, hf⟩ := pb1 hf
              refine gCl (va_runS (As := [.int (119 : Int32), .int (104 : Int32), .int (101 : Int32), .int (101 : Int32), .int (108 : Int32), .int (0 : Int32)]) (rest := [.long j0]) hF (kX5_named l dC dI Z cC cI cZ cW  _  (119 : Int32) (104 : Int32) (101 : Int32) (101 : Int32) (108 : Int32) (0 : Int32) N r_19 hc) (cwS 6 hts gX5_wordOf_X5_named rfl rfl rfl (by decide +kernel) ⟨Nat.le_of_ble_eq_true rfl, Nat.le_of_ble_eq_true rfl⟩) (gPS (wc := []) hK hN hA hS hP hD [] rfl rfl) rfl rfl hl.1 rfl (lv_room (Nat.le_of_ble_eq_true rfl)) dX5_wordOf_137 ⟨Nat.zero_le _, Nat.zero_le _⟩) hP hD hS hA [] rfl rfl rfl (fun H locs hP hD hS => ?_)
              refine W.lcmp hx hb dX5_wordOf_140 ?_
              refine lv_if_ne (tgt := 148) hx hb dX5_wordOf_141 (by decide) (fun c_20 => ?_) (fun c_20 => ?_)
              · have hf := pif hf c_20
                refine lv_bipush (v := (-9 : Int32)) hx hb dX5_wordOf_148 (by decide) ?_
                have q0 := Option.some.inj hf
                subst q0
                exact gRi hx hb hr hlocks hP hS dX5_wordOf_150
              · have hf := pit hf c_20
                refine lv_iconst (v := (5 : Int32)) hx hb dX5_wordOf_144 (by decide) ?_
                refine lv_goto (tgt := 150) hx hb dX5_wordOf_145 (by decide) ?_
                have q0 := Option.some.inj hf
                subst q0
                exact gRi hx hb hr hlocks hP hS dX5_wordOf_150
            · have hf := pit hf c_18
              refine lv_iconst (v := (4 : Int32)) hx hb dX5_wordOf_121 (by decide) ?_
              refine lv_goto (tgt := 150) hx hb dX5_wordOf_122 (by decide) ?_
              have q0 := Option.some.inj hf
              subst q0
              exact gRi hx hb hr hlocks hP hS dX5_wordOf_150
          · have hf := pit hf c_16
            refine lv_iconst (v := (3 : Int32)) hx hb dX5_wordOf_101 (by decide) ?_
            refine lv_goto (tgt := 150) hx hb dX5_wordOf_102 (by decide) ?_
            have q0 := Option.some.inj hf
            subst q0
            exact gRi hx hb hr hlocks hP hS dX5_wordOf_150
        · have hf := pif hf c_14
          refine lv_iload_n hx hb dX5_wordOf_79 rfl (lv_at hl 0 rfl) ?_
          refine lv_goto (tgt := 150) hx hb dX5_wordOf_80 (by decide) ?_
          have q0 := Option.some.inj hf
          subst q0
          exact gRi hx hb hr hlocks hP hS dX5_wordOf_150
    · have hf := pit hf c_4
      refine lv_iconst (v := (1 : Int32)) hx hb dX5_wordOf_43 (by decide) ?_
      refine lv_goto (tgt := 72) hx hb dX5_wordOf_44 (by decide) ?_
      refine lv_istore_n (lv' := [(2, .int (1 : Int32)), (0, .long j0)]) hx hb dX5_wordOf_72 rfl hl (by decide) rfl (fun ls hl => ?_)
      refine lv_iload_n hx hb dX5_wordOf_73 rfl (lv_at hl 0 rfl) ?_
      refine lv_bipush (v := (-9 : Int32)) hx hb dX5_wordOf_74 (by decide) ?_
      refine lv_icmp_eq (tgt := 83) hx hb dX5_wordOf_76 (by decide) (fun c_21 => ?_) (fun c_21 => ?_)
      · have hf := pit hf c_21
        refine lv_lload_n hx hb dX5_wordOf_83 rfl (lv_at hl 1 rfl) ?_
        refine lv_bipush (v := (115 : Int32)) hx hb dX5_wordOf_84 (by decide) ?_
        refine lv_bipush (v := (107 : Int32)) hx hb dX5_wordOf_86 (by decide) ?_
        refine lv_bipush (v := (105 : Int32)) hx hb dX5_wordOf_88 (by decide) ?_
        refine lv_bipush (v := (112 : Int32)) hx hb dX5_wordOf_90 (by decide) ?_
        refine lv_iconst (v := (0 : Int32)) hx hb dX5_wordOf_92 (by decide) ?_
        refine lv_iconst (v := (0 : Int32)) hx hb dX5_wordOf_93 (by decide) ?_
        obtain ⟨r_22, hc, hf⟩ := pb1 hf
        refine gCl (va_runS (As := [.int (115 : Int32), .int (107 : Int32), .int (105 : Int32), .int (112 : Int32), .int (0 : Int32), .int (0 : Int32)]) (rest := [.long j0]) hF (kX5_named l dC dI Z cC cI cZ cW  _  (115 : Int32) (107 : Int32) (105 : Int32) (112 : Int32) (0 : Int32) (0 : Int32) N r_22 hc) (cwS 6 hts gX5_wordOf_X5_named rfl rfl rfl (by decide +kernel) ⟨Nat.le_of_ble_eq_true rfl, Nat.le_of_ble_eq_true rfl⟩) (gPS (wc := []) hK hN hA hS hP hD [] rfl rfl) rfl rfl hl.1 rfl (lv_room (Nat.le_of_ble_eq_true rfl)) dX5_wordOf_94 ⟨Nat.zero_le _, Nat.zero_le _⟩) hP hD hS hA [] rfl rfl rfl (fun H locs hP hD hS => ?_)
        refine W.lcmp hx hb dX5_wordOf_97 ?_
        refine lv_if_ne (tgt := 105) hx hb dX5_wordOf_98 (by decide) (fun c_23 => ?_) (fun c_23 => ?_)
        · have hf := pif hf c_23
          refine lv_lload_n hx hb dX5_wordOf_105 rfl (lv_at hl 1 rfl) ?_
          refine lv_bipush (v := (97 : Int32)) hx hb dX5_wordOf_106 (by decide) ?_
          refine lv_bipush (v := (116 : Int32)) hx hb dX5_wordOf_108 (by decide) ?_
          refine lv_iconst (v := (0 : Int32)) hx hb dX5_wordOf_110 (by decide) ?_
          refine lv_iconst (v := (0 : Int32)) hx hb dX5_wordOf_111 (by decide) ?_
          refine lv_iconst (v := (0 : Int32)) hx hb dX5_wordOf_112 (by decide) ?_
          refine lv_iconst (v := (0 : Int32)) hx hb dX5_wordOf_113 (by decide) ?_
          obtain ⟨r_24, hc, hf⟩ := pb1 hf
          refine gCl (va_runS (As := [.int (97 : Int32), .int (116 : Int32), .int (0 : Int32), .int (0 : Int32), .int (0 : Int32), .int (0 : Int32)]) (rest := [.long j0]) hF (kX5_named l dC dI Z cC cI cZ cW  _  (97 : Int32) (116 : Int32) (0 : Int32) (0 : Int32) (0 : Int32) (0 : Int32) N r_24 hc) (cwS 6 hts gX5_wordOf_X5_named rfl rfl rfl (by decide +kernel) ⟨Nat.le_of_ble_eq_true rfl, Nat.le_of_ble_eq_true rfl⟩) (gPS (wc := []) hK hN hA hS hP hD [] rfl rfl) rfl rfl hl.1 rfl (lv_room (Nat.le_of_ble_eq_true rfl)) dX5_wordOf_114 ⟨Nat.zero_le _, Nat.zero_le _⟩) hP hD hS hA [] rfl rfl rfl (fun H locs hP hD hS => ?_)
          refine W.lcmp hx hb dX5_wordOf_117 ?_
          refine lv_if_ne (tgt := 125) hx hb dX5_wordOf_118 (by decide) (fun c_25 => ?_) (fun c_25 => ?_)
          · have hf := pif hf c_25
            refine lv_lload_n hx hb dX5_wordOf_125 rfl (lv_at hl 1 rfl) ?_
            refine lv_bipush (v := (119 : Int32)) hx hb dX5_wordOf_126 (by decide) ?_
            refine lv_bipush (v := (104 : Int32)) hx hb dX5_wordOf_128 (by decide) ?_
            refine lv_bipush (v := (101 : Int32)) hx hb dX5_wordOf_130 (by decide) ?_
            refine lv_bipush (v := (101 : Int32)) hx hb dX5_wordOf_132 (by decide) ?_
            refine lv_bipush (v := (108 : Int32)) hx hb dX5_wordOf_134 (by decide) ?_
            refine lv_iconst (v := (0 : Int32)) hx hb dX5_wordOf_136 (by decide) ?_
            obtain ⟨r_26, hc, hf⟩ := pb1 hf
            refine gCl (va_runS (As := [.int (119 : Int32), .int (104 : Int32), .int (101 : Int32), .int (101 : Int32), .int (108 : Int32), .int (0 : Int32)]) (rest := [.long j0]) hF (kX5_named l dC dI Z cC cI cZ cW  _  (119 : Int32) (104 : Int32) (101 : Int32) (101 : Int32) (108 : Int32) (0 : Int32) N r_26 hc) (cwS 6 hts gX5_wordOf_X5_named rfl rfl rfl (by decide +kernel) ⟨Nat.le_of_ble_eq_true rfl, Nat.le_of_ble_eq_true rfl⟩) (gPS (wc := []) hK hN hA hS hP hD [] rfl rfl) rfl rfl hl.1 rfl (lv_room (Nat.le_of_ble_eq_true rfl)) dX5_wordOf_137 ⟨Nat.zero_le _, Nat.zero_le _⟩) hP hD hS hA [] rfl rfl rfl (fun H locs hP hD hS => ?_)
            refine W.lcmp hx hb dX5_wordOf_140 ?_
            refine lv_if_ne (tgt := 148) hx hb dX5_wordOf_141 (by decide) (fun c_27 => ?_) (fun c_27 => ?_)
            · have hf := pif hf c_27
              refine lv_bipush (v := (-9 : Int32)) hx hb dX5_wordOf_148 (by decide) ?_
              have q0 := Option.some.inj hf
              subst q0
              exact gRi hx hb hr hlocks hP hS dX5_wordOf_150
            · have hf := pit hf c_27
              refine lv_iconst (v := (5 : Int32)) hx hb dX5_wordOf_144 (by decide) ?_
              refine lv_goto (tgt := 150) hx hb dX5_wordOf_145 (by decide) ?_
              have q0 := Option.some.inj hf
              subst q0
              exact gRi hx hb hr hlocks hP hS dX5_wordOf_150
          · have hf := pit hf c_25
            refine lv_iconst (v := (4 : Int32)) hx hb dX5_wordOf_121 (by decide) ?_
            refine lv_goto (tgt := 150) hx hb dX5_wordOf_122 (by decide) ?_
            have q0 := Option.some.inj hf
            subst q0
            exact gRi hx hb hr hlocks hP hS dX5_wordOf_150
        · have hf := pit hf c_23
          refine lv_iconst (v := (3 : Int32)) hx hb dX5_wordOf_101 (by decide) ?_
          refine lv_goto (tgt := 150) hx hb dX5_wordOf_102 (by decide) ?_
          have q0 := Option.some.inj hf
          subst q0
          exact gRi hx hb hr hlocks hP hS dX5_wordOf_150
      · have hf := pif hf c_21
        refine lv_iload_n hx hb dX5_wordOf_79 rfl (lv_at hl 0 rfl) ?_
        refine lv_goto (tgt := 150) hx hb dX5_wordOf_80 (by decide) ?_
        have q0 := Option.some.inj hf
        subst q0
        exact gRi hx hb hr hlocks hP hS dX5_wordOf_150
  · have hf := pit hf c_2
    refine lv_iconst (v := (0 : Int32)) hx hb dX5_wordOf_19 (by decide) ?_
    refine lv_goto (tgt := 72) hx hb dX5_wordOf_20 (by decide) ?_
    refine lv_istore_n (lv' := [(2, .int (0 : Int32)), (0, .long j0)]) hx hb dX5_wordOf_72 rfl hl (by decide) rfl (fun ls hl => ?_)
    refine lv_iload_n hx hb dX5_wordOf_73 rfl (lv_at hl 0 rfl) ?_
    refine lv_bipush (v := (-9 : Int32)) hx hb dX5_wordOf_74 (by decide) ?_
    refine lv_icmp_eq (tgt := 83) hx hb dX5_wordOf_76 (by decide) (fun c_28 => ?_) (fun c_28 => ?_)
    · have hf := pit hf c_28
      refine lv_lload_n hx hb dX5_wordOf_83 rfl (lv_at hl 1 rfl) ?_
      refine lv_bipush (v := (115 : Int32)) hx hb dX5_wordOf_84 (by decide) ?_
      refine lv_bipush (v := (107 : Int32)) hx hb dX5_wordOf_86 (by decide) ?_
      refine lv_bipush (v := (105 : Int32)) hx hb dX5_wordOf_88 (by decide) ?_
      refine lv_bipush (v := (112 : Int32)) hx hb dX5_wordOf_90 (by decide) ?_
      refine lv_iconst (v := (0 : Int32)) hx hb dX5_wordOf_92 (by decide) ?_
      refine lv_iconst (v := (0 : Int32)) hx hb dX5_wordOf_93 (by decide) ?_
      obtain ⟨r_29, hc, hf⟩ := pb1 hf
      refine gCl (va_runS (As := [.int (115 : Int32), .int (107 : Int32), .int (105 : Int32), .int (112 : Int32), .int (0 : Int32), .int (0 : Int32)]) (rest := [.long j0]) hF (kX5_named l dC dI Z cC cI cZ cW  _  (115 : Int32) (107 : Int32) (105 : Int32) (112 : Int32) (0 : Int32) (0 : Int32) N r_29 hc) (cwS 6 hts gX5_wordOf_X5_named rfl rfl rfl (by decide +kernel) ⟨Nat.le_of_ble_eq_true rfl, Nat.le_of_ble_eq_true rfl⟩) (gPS (wc := []) hK hN hA hS hP hD [] rfl rfl) rfl rfl hl.1 rfl (lv_room (Nat.le_of_ble_eq_true rfl)) dX5_wordOf_94 ⟨Nat.zero_le _, Nat.zero_le _⟩) hP hD hS hA [] rfl rfl rfl (fun H locs hP hD hS => ?_)
      refine W.lcmp hx hb dX5_wordOf_97 ?_
      refine lv_if_ne (tgt := 105) hx hb dX5_wordOf_98 (by decide) (fun c_30 => ?_) (fun c_30 => ?_)
      · have hf := pif hf c_30
        refine lv_lload_n hx hb dX5_wordOf_105 rfl (lv_at hl 1 rfl) ?_
        refine lv_bipush (v := (97 : Int32)) hx hb dX5_wordOf_106 (by decide) ?_
        refine lv_bipush (v := (116 : Int32)) hx hb dX5_wordOf_108 (by decide) ?_
        refine lv_iconst (v := (0 : Int32)) hx hb dX5_wordOf_110 (by decide) ?_
        refine lv_iconst (v := (0 : Int32)) hx hb dX5_wordOf_111 (by decide) ?_
        refine lv_iconst (v := (0 : Int32)) hx hb dX5_wordOf_112 (by decide) ?_
        refine lv_iconst (v := (0 : Int32)) hx hb dX5_wordOf_113 (by decide) ?_
        obtain ⟨r_31, hc, hf⟩ := pb1 hf
        refine gCl (va_runS (As := [.int (97 : Int32), .int (116 : Int32), .int (0 : Int32), .int (0 : Int32), .int (0 : Int32), .int (0 : Int32)]) (rest := [.long j0]) hF (kX5_named l dC dI Z cC cI cZ cW  _  (97 : Int32) (116 : Int32) (0 : Int32) (0 : Int32) (0 : Int32) (0 : Int32) N r_31 hc) (cwS 6 hts gX5_wordOf_X5_named rfl rfl rfl (by decide +kernel) ⟨Nat.le_of_ble_eq_true rfl, Nat.le_of_ble_eq_true rfl⟩) (gPS (wc := []) hK hN hA hS hP hD [] rfl rfl) rfl rfl hl.1 rfl (lv_room (Nat.le_of_ble_eq_true rfl)) dX5_wordOf_114 ⟨Nat.zero_le _, Nat.zero_le _⟩) hP hD hS hA [] rfl rfl rfl (fun H locs hP hD hS => ?_)
        refine W.lcmp hx hb dX5_wordOf_117 ?_
        refine lv_if_ne (tgt := 125) hx hb dX5_wordOf_118 (by decide) (fun c_32 => ?_) (fun c_32 => ?_)
        · have hf := pif hf c_32
          refine lv_lload_n hx hb dX5_wordOf_125 rfl (lv_at hl 1 rfl) ?_
          refine lv_bipush (v := (119 : Int32)) hx hb dX5_wordOf_126 (by decide) ?_
          refine lv_bipush (v := (104 : Int32)) hx hb dX5_wordOf_128 (by decide) ?_
          refine lv_bipush (v := (101 : Int32)) hx hb dX5_wordOf_130 (by decide) ?_
          refine lv_bipush (v := (101 : Int32)) hx hb dX5_wordOf_132 (by decide) ?_
          refine lv_bipush (v := (108 : Int32)) hx hb dX5_wordOf_134 (by decide) ?_
          refine lv_iconst (v := (0 : Int32)) hx hb dX5_wordOf_136 (by decide) ?_
          obtain ⟨r_33, hc, hf⟩ := pb1 hf
          refine gCl (va_runS (As := [.int (119 : Int32), .int (104 : Int32), .int (101 : Int32), .int (101 : Int32), .int (108 : Int32), .int (0 : Int32)]) (rest := [.long j0]) hF (kX5_named l dC dI Z cC cI cZ cW  _  (119 : Int32) (104 : Int32) (101 : Int32) (101 : Int32) (108 : Int32) (0 : Int32) N r_33 hc) (cwS 6 hts gX5_wordOf_X5_named rfl rfl rfl (by decide +kernel) ⟨Nat.le_of_ble_eq_true rfl, Nat.le_of_ble_eq_true rfl⟩) (gPS (wc := []) hK hN hA hS hP hD [] rfl rfl) rfl rfl hl.1 rfl (lv_room (Nat.le_of_ble_eq_true rfl)) dX5_wordOf_137 ⟨Nat.zero_le _, Nat.zero_le _⟩) hP hD hS hA [] rfl rfl rfl (fun H locs hP hD hS => ?_)
          refine W.lcmp hx hb dX5_wordOf_140 ?_
          refine lv_if_ne (tgt := 148) hx hb dX5_wordOf_141 (by decide) (fun c_34 => ?_) (fun c_34 => ?_)
          · have hf := pif hf c_34
            refine lv_bipush (v := (-9 : Int32)) hx hb dX5_wordOf_148 (by decide) ?_
            have q0 := Option.some.inj hf
            subst q0
            exact gRi hx hb hr hlocks hP hS dX5_wordOf_150
          · have hf := pit hf c_34
            refine lv_iconst (v := (5 : Int32)) hx hb dX5_wordOf_144 (by decide) ?_
            refine lv_goto (tgt := 150) hx hb dX5_wordOf_145 (by decide) ?_
            have q0 := Option.some.inj hf
            subst q0
            exact gRi hx hb hr hlocks hP hS dX5_wordOf_150
        · have hf := pit hf c_32
          refine lv_iconst (v := (4 : Int32)) hx hb dX5_wordOf_121 (by decide) ?_
          refine lv_goto (tgt := 150) hx hb dX5_wordOf_122 (by decide) ?_
          have q0 := Option.some.inj hf
          subst q0
          exact gRi hx hb hr hlocks hP hS dX5_wordOf_150
      · have hf := pit hf c_30
        refine lv_iconst (v := (3 : Int32)) hx hb dX5_wordOf_101 (by decide) ?_
        refine lv_goto (tgt := 150) hx hb dX5_wordOf_102 (by decide) ?_
        have q0 := Option.some.inj hf
        subst q0
        exact gRi hx hb hr hlocks hP hS dX5_wordOf_150
    · have hf := pif hf c_28
      refine lv_iload_n hx hb dX5_wordOf_79 rfl (lv_at hl 0 rfl) ?_
      refine lv_goto (tgt := 150) hx hb dX5_wordOf_80 (by decide) ?_
      have q0 := Option.some.inj hf
      subst q0
      exact gRi hx hb hr hlocks hP hS dX5_wordOf_150
abbrev rmX5_advances : Room := { frames := 3, cells := 0, slots := 0, locals := 69 }
set_option maxRecDepth 20000 in
theorem uX5_advances_X5 : ∀ w ∈ wsX50, w ∈ wsX5_advances := by decide +kernel
set_option maxRecDepth 20000 in
theorem mX5_advances_0 : (Cond.fieldLink RX5 82 "TradeWheelModel" "next" "I" : Cond) ∈ wsX5_advances := by decide +kernel
set_option maxRecDepth 20000 in
theorem mX5_advances_1 : (Cond.fieldLink RX5 89 "TradeWheelModel" "place" "I" : Cond) ∈ wsX5_advances := by decide +kernel
set_option maxRecDepth 20000 in
theorem mX5_advances_2 : (Cond.fieldLink RX5 92 "TradeWheelModel" "token" "I" : Cond) ∈ wsX5_advances := by decide +kernel
set_option maxRecDepth 20000 in
theorem mX5_advances_3 : (Cond.fieldLink RX5 99 "TradeWheelModel" "value" "I" : Cond) ∈ wsX5_advances := by decide +kernel
set_option maxHeartbeats 4000000 in
set_option maxRecDepth 100000 in
theorem wX5_advances_0 {p : Program} {l : Launch} {e : Env} {s : State} {m : MethodId} {args : Array Value} {below : List Frame} {meth : Method} {c : Code} {Q : State → Prop} {A : Nat → Prop} {dC : Nat → ClassId} {dI : Nat → Nat → Nat} {Z : gZ} {cC cI cZ cW : ClassId} (hg0 : gX p s m args meth c cX5_advances 4 none wsX5_advances RX5 (dC, dI) Z [(cC, .char), (cI, .int), (cZ, .boolean), (cW, .object RX3)] A) (a_o a_o_text a_o_need a_o_made a_o_skillTold a_o_placeTold a_o_skips a_o_wheelTold a_o_tunes a_o_s a_o_spare a_o_kept a_o_isKept a_o_makes a_o_works a_o_order : Nat) (o_thrown : Int32) (o_trace : Int64) (o_typed : Int32) (o_token : Int32) (o_place : Int32) (o_value : Int32) (o_fault : Int32) (o_trades : Int32) (o_people : Int32) (o_draftTrades : Int32) (o_draftPeople : Int32) (o_isShut : Int32) (o_falling : Int32) (o_text : Nat → Int32)  (N : Nat) : ∀ (n : Nat) (o_next : Int32) (o_next' : Int32), fX5_advances_0 N o_typed o_text n o_next = some o_next' → ∀ (H : Heap) (locs : List Loc) (ls : Array Slot), va_P (dC, dI) vwCl [(a_o, .inr (5, [.int o_thrown, .long o_trace, .ref a_o_text, .int o_typed, .int o_next, .int o_token, .int o_place, .int o_value, .int o_fault, .ref a_o_need, .ref a_o_made, .ref a_o_skillTold, .ref a_o_placeTold, .ref a_o_skips, .ref a_o_wheelTold, .int o_trades, .int o_people, .int o_draftTrades, .int o_draftPeople, .int o_isShut, .ref a_o_tunes, .ref a_o_s, .ref a_o_spare, .ref a_o_kept, .ref a_o_isKept, .ref a_o_makes, .ref a_o_works, .ref a_o_order, .int o_falling])), (a_o_text, .inl (cI, 400, .inl o_text))] H → va_D A [(a_o, .inr (5, [.int o_thrown, .long o_trace, .ref a_o_text, .int o_typed, .int o_next, .int o_token, .int o_place, .int o_value, .int o_fault, .ref a_o_need, .ref a_o_made, .ref a_o_skillTold, .ref a_o_placeTold, .ref a_o_skips, .ref a_o_wheelTold, .int o_trades, .int o_people, .int o_draftTrades, .int o_draftPeople, .int o_isShut, .ref a_o_tunes, .ref a_o_s, .ref a_o_spare, .ref a_o_kept, .ref a_o_isKept, .ref a_o_makes, .ref a_o_works, .ref a_o_order, .int o_falling])), (a_o_text, .inl (cI, 400, .inl o_text))] → va_S A s.heap H locs → lv_has ls 4 [(0, .ref a_o)] → (∀ (H : Heap) (locs : List Loc) (ls : Array Slot), va_P (dC, dI) vwCl [(a_o, .inr (5, [.int o_thrown, .long o_trace, .ref a_o_text, .int o_typed, .int o_next', .int o_token, .int o_place, .int o_value, .int o_fault, .ref a_o_need, .ref a_o_made, .ref a_o_skillTold, .ref a_o_placeTold, .ref a_o_skips, .ref a_o_wheelTold, .int o_trades, .int o_people, .int o_draftTrades, .int o_draftPeople, .int o_isShut, .ref a_o_tunes, .ref a_o_s, .ref a_o_spare, .ref a_o_kept, .ref a_o_isKept, .ref a_o_makes, .ref a_o_works, .ref a_o_order, .int o_falling])), (a_o_text, .inl (cI, 400, .inl o_text))] H → va_D A [(a_o, .inr (5, [.int o_thrown, .long o_trace, .ref a_o_text, .int o_typed, .int o_next', .int o_token, .int o_place, .int o_value, .int o_fault, .ref a_o_need, .ref a_o_made, .ref a_o_skillTold, .ref a_o_placeTold, .ref a_o_skips, .ref a_o_wheelTold, .int o_trades, .int o_people, .int o_draftTrades, .int o_draftPeople, .int o_isShut, .ref a_o_tunes, .ref a_o_s, .ref a_o_spare, .ref a_o_kept, .ref a_o_isKept, .ref a_o_makes, .ref a_o_works, .ref a_o_order, .int o_falling])), (a_o_text, .inl (cI, 400, .inl o_text))] → va_S A s.heap H locs → lv_has ls 4 [(0, .ref a_o)] → W p l e (headSpec wsX5_advances rmX5_advances).room s m args below meth c H locs 0 0 Q (F0 m 26 ls [])) → W p l e (headSpec wsX5_advances rmX5_advances).room s m args below meth c H locs 0 0 Q (F0 m 0 ls []) := by
  obtain ⟨hx, hb, hr, hml, hown, hts, hlocks, hA, hK, hN⟩ := id hg0
  have hF : CallFix p m c cX5_advances 4 s args wsX5_advances RX5 := ⟨hx, hb, hml, hown, hts⟩
  intro n
  induction n with
  | zero =>
    intro o_next o_next' hf
    have hf := fX5_advances_0_0.symm.trans hf
    cases hf
  | succ n ih =>
    intro o_next o_next' hf H locs ls hP hD hS hl kx
    have hf := fX5_advances_0_s.symm.trans hf
    refine lv_aload_n hx hb dX5_advances_0 rfl (lv_at hl 0 rfl) ?_
    refine lv_aload_n hx hb dX5_advances_1 rfl (lv_at hl 0 rfl) ?_
    refine va_get (D := (dC, dI)) (ci := 5) (v := .int o_next) (C := RX5) (T := TX5) (N := 29) hx hb hts uX5_advances_X5 hown hK hP 0 rfl rfl 4 (by decide) (hts _ mX5_advances_0) (fun _ h9 => h9) rfl dX5_advances_2 ?_
    obtain ⟨r_1, hc, hf⟩ := pb1 hf
    refine gCi (va_runV (As := [.int o_next]) (rest := []) hF (kX5_byteAt l dC dI Z cC cI cZ cW a_o a_o_text a_o_need a_o_made a_o_skillTold a_o_placeTold a_o_skips a_o_wheelTold a_o_tunes a_o_s a_o_spare a_o_kept a_o_isKept a_o_makes a_o_works a_o_order _ o_thrown o_trace o_typed o_next o_token o_place o_value o_fault o_trades o_people o_draftTrades o_draftPeople o_isShut o_falling o_text o_next N r_1 hc) (cwV 1 hts gX5_advances_X5_byteAt rfl rfl rfl (by decide +kernel) ⟨Nat.le_of_ble_eq_true rfl, Nat.le_of_ble_eq_true rfl⟩) (gPV (wc := [(a_o, .inr (5, [.int o_thrown, .long o_trace, .ref a_o_text, .int o_typed, .int o_next, .int o_token, .int o_place, .int o_value, .int o_fault, .ref a_o_need, .ref a_o_made, .ref a_o_skillTold, .ref a_o_placeTold, .ref a_o_skips, .ref a_o_wheelTold, .int o_trades, .int o_people, .int o_draftTrades, .int o_draftPeople, .int o_isShut, .ref a_o_tunes, .ref a_o_s, .ref a_o_spare, .ref a_o_kept, .ref a_o_isKept, .ref a_o_makes, .ref a_o_works, .ref a_o_order, .int o_falling])), (a_o_text, .inl (cI, 400, .inl o_text))]) hK hN hA hS hP hD [0, 1] rfl rfl (q0 := 0) (ci := 5) rfl rfl rfl) rfl rfl hl.1 rfl (lv_room (Nat.le_of_ble_eq_true rfl)) dX5_advances_5 ⟨Nat.zero_le _, Nat.zero_le _⟩) hP hD hS hA [0, 1] rfl rfl rfl (fun H locs hP hD hS => ?_)
    have hP : va_P (dC, dI) vwCl [(a_o, .inr (5, [.int o_thrown, .long o_trace, .ref a_o_text, .int o_typed, .int o_next, .int o_token, .int o_place, .int o_value, .int o_fault, .ref a_o_need, .ref a_o_made, .ref a_o_skillTold, .ref a_o_placeTold, .ref a_o_skips, .ref a_o_wheelTold, .int o_trades, .int o_people, .int o_draftTrades, .int o_draftPeople, .int o_isShut, .ref a_o_tunes, .ref a_o_s, .ref a_o_spare, .ref a_o_kept, .ref a_o_isKept, .ref a_o_makes, .ref a_o_works, .ref a_o_order, .int o_falling])), (a_o_text, .inl (cI, 400, .inl o_text))] H := hP
    have hD : va_D A [(a_o, .inr (5, [.int o_thrown, .long o_trace, .ref a_o_text, .int o_typed, .int o_next, .int o_token, .int o_place, .int o_value, .int o_fault, .ref a_o_need, .ref a_o_made, .ref a_o_skillTold, .ref a_o_placeTold, .ref a_o_skips, .ref a_o_wheelTold, .int o_trades, .int o_people, .int o_draftTrades, .int o_draftPeople, .int o_isShut, .ref a_o_tunes, .ref a_o_s, .ref a_o_spare, .ref a_o_kept, .ref a_o_isKept, .ref a_o_makes, .ref a_o_works, .ref a_o_order, .int o_falling])), (a_o_text, .inl (cI, 400, .inl o_text))] := hD
    refine lv_bipush (v := (32 : Int32)) hx hb dX5_advances_8 (by decide) ?_
    refine lv_icmp_ne (tgt := 26) hx hb dX5_advances_10 (by decide) (fun c_2 => ?_) (fun c_2 => ?_)
    · have hf := pif hf c_2
      have q0 := Option.some.inj hf
      subst q0
      exact kx _ _ _ hP hD hS (lv_sub hl [0] rfl)
    · have hf := pit hf c_2
      refine lv_aload_n hx hb dX5_advances_13 rfl (lv_at hl 0 rfl) ?_
      refine lv_dup hx hb dX5_advances_14 rfl ?_
      refine va_get (D := (dC, dI)) (ci := 5) (v := .int o_next) (C := RX5) (T := TX5) (N := 29) hx hb hts uX5_advances_X5 hown hK hP 0 rfl rfl 4 (by decide) (hts _ mX5_advances_0) (fun _ h9 => h9) rfl dX5_advances_15 ?_
      refine lv_iconst (v := (1 : Int32)) hx hb dX5_advances_18 (by decide) ?_
      refine lv_iadd hx hb dX5_advances_19 ?_
      refine va_put (D := (dC, dI)) (ci := 5) (v := .int (o_next + (1 : Int32))) (ty := .int) (C := RX5) (T := TX5) (N := 29) hx hb hts uX5_advances_X5 tyX5 tyX5_ok nmX5 hown hK hP hD hS 0 rfl rfl 4 (by decide) (hts _ mX5_advances_0) (fun _ h9 => h9) rfl (by decide +kernel) rfl rfl (Nat.le_of_ble_eq_true rfl) dX5_advances_20 (fun H locs hP hD hS => ?_)
      have hP : va_P (dC, dI) vwCl [(a_o, .inr (5, [.int o_thrown, .long o_trace, .ref a_o_text, .int o_typed, .int (o_next + (1 : Int32)), .int o_token, .int o_place, .int o_value, .int o_fault, .ref a_o_need, .ref a_o_made, .ref a_o_skillTold, .ref a_o_placeTold, .ref a_o_skips, .ref a_o_wheelTold, .int o_trades, .int o_people, .int o_draftTrades, .int o_draftPeople, .int o_isShut, .ref a_o_tunes, .ref a_o_s, .ref a_o_spare, .ref a_o_kept, .ref a_o_isKept, .ref a_o_makes, .ref a_o_works, .ref a_o_order, .int o_falling])), (a_o_text, .inl (cI, 400, .inl o_text))] H := hP
      have hD : va_D A [(a_o, .inr (5, [.int o_thrown, .long o_trace, .ref a_o_text, .int o_typed, .int (o_next + (1 : Int32)), .int o_token, .int o_place, .int o_value, .int o_fault, .ref a_o_need, .ref a_o_made, .ref a_o_skillTold, .ref a_o_placeTold, .ref a_o_skips, .ref a_o_wheelTold, .int o_trades, .int o_people, .int o_draftTrades, .int o_draftPeople, .int o_isShut, .ref a_o_tunes, .ref a_o_s, .ref a_o_spare, .ref a_o_kept, .ref a_o_isKept, .ref a_o_makes, .ref a_o_works, .ref a_o_order, .int o_falling])), (a_o_text, .inl (cI, 400, .inl o_text))] := hD
      refine lv_goto (tgt := 0) hx hb dX5_advances_23 (by decide) ?_
      exact ih _ _ hf _ _ _ hP hD hS (lv_sub hl [0] rfl) kx
set_option maxHeartbeats 4000000 in
set_option maxRecDepth 100000 in
theorem wX5_advances_175 {p : Program} {l : Launch} {e : Env} {s : State} {m : MethodId} {args : Array Value} {below : List Frame} {meth : Method} {c : Code} {Q : State → Prop} {A : Nat → Prop} {dC : Nat → ClassId} {dI : Nat → Nat → Nat} {Z : gZ} {cC cI cZ cW : ClassId} (hg0 : gX p s m args meth c cX5_advances 4 none wsX5_advances RX5 (dC, dI) Z [(cC, .char), (cI, .int), (cZ, .boolean), (cW, .object RX3)] A) (a_o a_o_text a_o_need a_o_made a_o_skillTold a_o_placeTold a_o_skips a_o_wheelTold a_o_tunes a_o_s a_o_spare a_o_kept a_o_isKept a_o_makes a_o_works a_o_order : Nat) (o_thrown : Int32) (o_trace : Int64) (o_typed : Int32) (o_token : Int32) (o_place : Int32) (o_fault : Int32) (o_trades : Int32) (o_people : Int32) (o_draftTrades : Int32) (o_draftPeople : Int32) (o_isShut : Int32) (o_falling : Int32) (o_text : Nat → Int32) (l1 : Int32) (N : Nat) : ∀ (n : Nat) (o_next : Int32) (o_value : Int32) (o_next' : Int32) (o_value' : Int32), fX5_advances_175 N o_typed o_text n o_next o_value = some (o_next', o_value') → ∀ (H : Heap) (locs : List Loc) (ls : Array Slot), va_P (dC, dI) vwCl [(a_o, .inr (5, [.int o_thrown, .long o_trace, .ref a_o_text, .int o_typed, .int o_next, .int o_token, .int o_place, .int o_value, .int o_fault, .ref a_o_need, .ref a_o_made, .ref a_o_skillTold, .ref a_o_placeTold, .ref a_o_skips, .ref a_o_wheelTold, .int o_trades, .int o_people, .int o_draftTrades, .int o_draftPeople, .int o_isShut, .ref a_o_tunes, .ref a_o_s, .ref a_o_spare, .ref a_o_kept, .ref a_o_isKept, .ref a_o_makes, .ref a_o_works, .ref a_o_order, .int o_falling])), (a_o_text, .inl (cI, 400, .inl o_text))] H → va_D A [(a_o, .inr (5, [.int o_thrown, .long o_trace, .ref a_o_text, .int o_typed, .int o_next, .int o_token, .int o_place, .int o_value, .int o_fault, .ref a_o_need, .ref a_o_made, .ref a_o_skillTold, .ref a_o_placeTold, .ref a_o_skips, .ref a_o_wheelTold, .int o_trades, .int o_people, .int o_draftTrades, .int o_draftPeople, .int o_isShut, .ref a_o_tunes, .ref a_o_s, .ref a_o_spare, .ref a_o_kept, .ref a_o_isKept, .ref a_o_makes, .ref a_o_works, .ref a_o_order, .int o_falling])), (a_o_text, .inl (cI, 400, .inl o_text))] → va_S A s.heap H locs → lv_has ls 4 [(0, .ref a_o), (1, .int l1)] → (∀ (H : Heap) (locs : List Loc) (ls : Array Slot), va_P (dC, dI) vwCl [(a_o, .inr (5, [.int o_thrown, .long o_trace, .ref a_o_text, .int o_typed, .int o_next', .int o_token, .int o_place, .int o_value', .int o_fault, .ref a_o_need, .ref a_o_made, .ref a_o_skillTold, .ref a_o_placeTold, .ref a_o_skips, .ref a_o_wheelTold, .int o_trades, .int o_people, .int o_draftTrades, .int o_draftPeople, .int o_isShut, .ref a_o_tunes, .ref a_o_s, .ref a_o_spare, .ref a_o_kept, .ref a_o_isKept, .ref a_o_makes, .ref a_o_works, .ref a_o_order, .int o_falling])), (a_o_text, .inl (cI, 400, .inl o_text))] H → va_D A [(a_o, .inr (5, [.int o_thrown, .long o_trace, .ref a_o_text, .int o_typed, .int o_next', .int o_token, .int o_place, .int o_value', .int o_fault, .ref a_o_need, .ref a_o_made, .ref a_o_skillTold, .ref a_o_placeTold, .ref a_o_skips, .ref a_o_wheelTold, .int o_trades, .int o_people, .int o_draftTrades, .int o_draftPeople, .int o_isShut, .ref a_o_tunes, .ref a_o_s, .ref a_o_spare, .ref a_o_kept, .ref a_o_isKept, .ref a_o_makes, .ref a_o_works, .ref a_o_order, .int o_falling])), (a_o_text, .inl (cI, 400, .inl o_text))] → va_S A s.heap H locs → lv_has ls 4 [(0, .ref a_o), (1, .int l1)] → W p l e (headSpec wsX5_advances rmX5_advances).room s m args below meth c H locs 0 0 Q (F0 m 245 ls [])) → W p l e (headSpec wsX5_advances rmX5_advances).room s m args below meth c H locs 0 0 Q (F0 m 175 ls []) := by
  obtain ⟨hx, hb, hr, hml, hown, hts, hlocks, hA, hK, hN⟩ := id hg0
  have hF : CallFix p m c cX5_advances 4 s args wsX5_advances RX5 := ⟨hx, hb, hml, hown, hts⟩
  intro n
  induction n with
  | zero =>
    intro o_next o_value o_next' o_value' hf
    have hf := fX5_advances_175_0.symm.trans hf
    cases hf
  | succ n ih =>
    intro o_next o_value o_next' o_value' hf H locs ls hP hD hS hl kx
    have hf := fX5_advances_175_s.symm.trans hf
    refine lv_aload_n hx hb dX5_advances_175 rfl (lv_at hl 0 rfl) ?_
    refine lv_aload_n hx hb dX5_advances_176 rfl (lv_at hl 0 rfl) ?_
    refine va_get (D := (dC, dI)) (ci := 5) (v := .int o_next) (C := RX5) (T := TX5) (N := 29) hx hb hts uX5_advances_X5 hown hK hP 0 rfl rfl 4 (by decide) (hts _ mX5_advances_0) (fun _ h9 => h9) rfl dX5_advances_177 ?_
    obtain ⟨r_1, hc, hf⟩ := pb1 hf
    refine gCi (va_runV (As := [.int o_next]) (rest := []) hF (kX5_byteAt l dC dI Z cC cI cZ cW a_o a_o_text a_o_need a_o_made a_o_skillTold a_o_placeTold a_o_skips a_o_wheelTold a_o_tunes a_o_s a_o_spare a_o_kept a_o_isKept a_o_makes a_o_works a_o_order _ o_thrown o_trace o_typed o_next o_token o_place o_value o_fault o_trades o_people o_draftTrades o_draftPeople o_isShut o_falling o_text o_next N r_1 hc) (cwV 1 hts gX5_advances_X5_byteAt rfl rfl rfl (by decide +kernel) ⟨Nat.le_of_ble_eq_true rfl, Nat.le_of_ble_eq_true rfl⟩) (gPV (wc := [(a_o, .inr (5, [.int o_thrown, .long o_trace, .ref a_o_text, .int o_typed, .int o_next, .int o_token, .int o_place, .int o_value, .int o_fault, .ref a_o_need, .ref a_o_made, .ref a_o_skillTold, .ref a_o_placeTold, .ref a_o_skips, .ref a_o_wheelTold, .int o_trades, .int o_people, .int o_draftTrades, .int o_draftPeople, .int o_isShut, .ref a_o_tunes, .ref a_o_s, .ref a_o_spare, .ref a_o_kept, .ref a_o_isKept, .ref a_o_makes, .ref a_o_works, .ref a_o_order, .int o_falling])), (a_o_text, .inl (cI, 400, .inl o_text))]) hK hN hA hS hP hD [0, 1] rfl rfl (q0 := 0) (ci := 5) rfl rfl rfl) rfl rfl hl.1 rfl (lv_room (Nat.le_of_ble_eq_true rfl)) dX5_advances_180 ⟨Nat.zero_le _, Nat.zero_le _⟩) hP hD hS hA [0, 1] rfl rfl rfl (fun H locs hP hD hS => ?_)
    have hP : va_P (dC, dI) vwCl [(a_o, .inr (5, [.int o_thrown, .long o_trace, .ref a_o_text, .int o_typed, .int o_next, .int o_token, .int o_place, .int o_value, .int o_fault, .ref a_o_need, .ref a_o_made, .ref a_o_skillTold, .ref a_o_placeTold, .ref a_o_skips, .ref a_o_wheelTold, .int o_trades, .int o_people, .int o_draftTrades, .int o_draftPeople, .int o_isShut, .ref a_o_tunes, .ref a_o_s, .ref a_o_spare, .ref a_o_kept, .ref a_o_isKept, .ref a_o_makes, .ref a_o_works, .ref a_o_order, .int o_falling])), (a_o_text, .inl (cI, 400, .inl o_text))] H := hP
    have hD : va_D A [(a_o, .inr (5, [.int o_thrown, .long o_trace, .ref a_o_text, .int o_typed, .int o_next, .int o_token, .int o_place, .int o_value, .int o_fault, .ref a_o_need, .ref a_o_made, .ref a_o_skillTold, .ref a_o_placeTold, .ref a_o_skips, .ref a_o_wheelTold, .int o_trades, .int o_people, .int o_draftTrades, .int o_draftPeople, .int o_isShut, .ref a_o_tunes, .ref a_o_s, .ref a_o_spare, .ref a_o_kept, .ref a_o_isKept, .ref a_o_makes, .ref a_o_works, .ref a_o_order, .int o_falling])), (a_o_text, .inl (cI, 400, .inl o_text))] := hD
    refine lv_bipush (v := (48 : Int32)) hx hb dX5_advances_183 (by decide) ?_
    refine lv_bipush (v := (57 : Int32)) hx hb dX5_advances_185 (by decide) ?_
    obtain ⟨r_2, hc, hf⟩ := pb1 hf
    refine gCi (va_runS (As := [.int r_1, .int (48 : Int32), .int (57 : Int32)]) (rest := []) hF (kX5_in l dC dI Z cC cI cZ cW  _  r_1 (48 : Int32) (57 : Int32) N r_2 hc) (cwS 3 hts gX5_advances_X5_in rfl rfl rfl (by decide +kernel) ⟨Nat.le_of_ble_eq_true rfl, Nat.le_of_ble_eq_true rfl⟩) (gPS (wc := []) hK hN hA hS hP hD [] rfl rfl) rfl rfl hl.1 rfl (lv_room (Nat.le_of_ble_eq_true rfl)) dX5_advances_187 ⟨Nat.zero_le _, Nat.zero_le _⟩) hP hD hS hA [] rfl rfl rfl (fun H locs hP hD hS => ?_)
    have hP : va_P (dC, dI) vwCl [(a_o, .inr (5, [.int o_thrown, .long o_trace, .ref a_o_text, .int o_typed, .int o_next, .int o_token, .int o_place, .int o_value, .int o_fault, .ref a_o_need, .ref a_o_made, .ref a_o_skillTold, .ref a_o_placeTold, .ref a_o_skips, .ref a_o_wheelTold, .int o_trades, .int o_people, .int o_draftTrades, .int o_draftPeople, .int o_isShut, .ref a_o_tunes, .ref a_o_s, .ref a_o_spare, .ref a_o_kept, .ref a_o_isKept, .ref a_o_makes, .ref a_o_works, .ref a_o_order, .int o_falling])), (a_o_text, .inl (cI, 400, .inl o_text))] H := hP
    have hD : va_D A [(a_o, .inr (5, [.int o_thrown, .long o_trace, .ref a_o_text, .int o_typed, .int o_next, .int o_token, .int o_place, .int o_value, .int o_fault, .ref a_o_need, .ref a_o_made, .ref a_o_skillTold, .ref a_o_placeTold, .ref a_o_skips, .ref a_o_wheelTold, .int o_trades, .int o_people, .int o_draftTrades, .int o_draftPeople, .int o_isShut, .ref a_o_tunes, .ref a_o_s, .ref a_o_spare, .ref a_o_kept, .ref a_o_isKept, .ref a_o_makes, .ref a_o_works, .ref a_o_order, .int o_falling])), (a_o_text, .inl (cI, 400, .inl o_text))] := hD
    refine lv_if_eq (tgt := 245) hx hb dX5_advances_190 (by decide) (fun c_3 => ?_) (fun c_3 => ?_)
    · have hf := pit hf c_3
      have q0 := Option.some.inj hf
      obtain ⟨e0, q1⟩ := Prod.mk.inj q0
      subst e0
      subst q1
      exact kx _ _ _ hP hD hS (lv_sub hl [0, 1] rfl)
    · have hf := pif hf c_3
      refine lv_aload_n hx hb dX5_advances_193 rfl (lv_at hl 0 rfl) ?_
      refine lv_aload_n hx hb dX5_advances_194 rfl (lv_at hl 0 rfl) ?_
      refine va_get (D := (dC, dI)) (ci := 5) (v := .int o_value) (C := RX5) (T := TX5) (N := 29) hx hb hts uX5_advances_X5 hown hK hP 0 rfl rfl 7 (by decide) (hts _ mX5_advances_3) (fun _ h9 => h9) rfl dX5_advances_195 ?_
      refine lv_bipush (v := (99 : Int32)) hx hb dX5_advances_198 (by decide) ?_
      refine lv_icmp_le (tgt := 210) hx hb dX5_advances_200 (by decide) (fun c_4 => ?_) (fun c_4 => ?_)
      · have hf := pit hf c_4
        refine lv_bipush (v := (10 : Int32)) hx hb dX5_advances_210 (by decide) ?_
        refine lv_aload_n hx hb dX5_advances_212 rfl (lv_at hl 0 rfl) ?_
        refine va_get (D := (dC, dI)) (ci := 5) (v := .int o_value) (C := RX5) (T := TX5) (N := 29) hx hb hts uX5_advances_X5 hown hK hP 0 rfl rfl 7 (by decide) (hts _ mX5_advances_3) (fun _ h9 => h9) rfl dX5_advances_213 ?_
        refine lv_imul hx hb dX5_advances_216 ?_
        refine lv_aload_n hx hb dX5_advances_217 rfl (lv_at hl 0 rfl) ?_
        refine lv_aload_n hx hb dX5_advances_218 rfl (lv_at hl 0 rfl) ?_
        refine va_get (D := (dC, dI)) (ci := 5) (v := .int o_next) (C := RX5) (T := TX5) (N := 29) hx hb hts uX5_advances_X5 hown hK hP 0 rfl rfl 4 (by decide) (hts _ mX5_advances_0) (fun _ h9 => h9) rfl dX5_advances_219 ?_
        obtain ⟨r_5, hc, hf⟩ := pb1 hf
        refine gCi (va_runV (As := [.int o_next]) (rest := [.int ((10 : Int32) * o_value), .ref a_o]) hF (kX5_byteAt l dC dI Z cC cI cZ cW a_o a_o_text a_o_need a_o_made a_o_skillTold a_o_placeTold a_o_skips a_o_wheelTold a_o_tunes a_o_s a_o_spare a_o_kept a_o_isKept a_o_makes a_o_works a_o_order _ o_thrown o_trace o_typed o_next o_token o_place o_value o_fault o_trades o_people o_draftTrades o_draftPeople o_isShut o_falling o_text o_next N r_5 hc) (cwV 1 hts gX5_advances_X5_byteAt rfl rfl rfl (by decide +kernel) ⟨Nat.le_of_ble_eq_true rfl, Nat.le_of_ble_eq_true rfl⟩) (gPV (wc := [(a_o, .inr (5, [.int o_thrown, .long o_trace, .ref a_o_text, .int o_typed, .int o_next, .int o_token, .int o_place, .int o_value, .int o_fault, .ref a_o_need, .ref a_o_made, .ref a_o_skillTold, .ref a_o_placeTold, .ref a_o_skips, .ref a_o_wheelTold, .int o_trades, .int o_people, .int o_draftTrades, .int o_draftPeople, .int o_isShut, .ref a_o_tunes, .ref a_o_s, .ref a_o_spare, .ref a_o_kept, .ref a_o_isKept, .ref a_o_makes, .ref a_o_works, .ref a_o_order, .int o_falling])), (a_o_text, .inl (cI, 400, .inl o_text))]) hK hN hA hS hP hD [0, 1] rfl rfl (q0 := 0) (ci := 5) rfl rfl rfl) rfl rfl hl.1 rfl (lv_room (Nat.le_of_ble_eq_true rfl)) dX5_advances_222 ⟨Nat.zero_le _, Nat.zero_le _⟩) hP hD hS hA [0, 1] rfl rfl rfl (fun H locs hP hD hS => ?_)
        have hP : va_P (dC, dI) vwCl [(a_o, .inr (5, [.int o_thrown, .long o_trace, .ref a_o_text, .int o_typed, .int o_next, .int o_token, .int o_place, .int o_value, .int o_fault, .ref a_o_need, .ref a_o_made, .ref a_o_skillTold, .ref a_o_placeTold, .ref a_o_skips, .ref a_o_wheelTold, .int o_trades, .int o_people, .int o_draftTrades, .int o_draftPeople, .int o_isShut, .ref a_o_tunes, .ref a_o_s, .ref a_o_spare, .ref a_o_kept, .ref a_o_isKept, .ref a_o_makes, .ref a_o_works, .ref a_o_order, .int o_falling])), (a_o_text, .inl (cI, 400, .inl o_text))] H := hP
        have hD : va_D A [(a_o, .inr (5, [.int o_thrown, .long o_trace, .ref a_o_text, .int o_typed, .int o_next, .int o_token, .int o_place, .int o_value, .int o_fault, .ref a_o_need, .ref a_o_made, .ref a_o_skillTold, .ref a_o_placeTold, .ref a_o_skips, .ref a_o_wheelTold, .int o_trades, .int o_people, .int o_draftTrades, .int o_draftPeople, .int o_isShut, .ref a_o_tunes, .ref a_o_s, .ref a_o_spare, .ref a_o_kept, .ref a_o_isKept, .ref a_o_makes, .ref a_o_works, .ref a_o_order, .int o_falling])), (a_o_text, .inl (cI, 400, .inl o_text))] := hD
        refine lv_iadd hx hb dX5_advances_225 ?_
        refine lv_bipush (v := (48 : Int32)) hx hb dX5_advances_226 (by decide) ?_
        refine lv_isub hx hb dX5_advances_228 ?_
        refine va_put (D := (dC, dI)) (ci := 5) (v := .int ((((10 : Int32) * o_value) + r_5) - (48 : Int32))) (ty := .int) (C := RX5) (T := TX5) (N := 29) hx hb hts uX5_advances_X5 tyX5 tyX5_ok nmX5 hown hK hP hD hS 0 rfl rfl 7 (by decide) (hts _ mX5_advances_3) (fun _ h9 => h9) rfl (by decide +kernel) rfl rfl (Nat.le_of_ble_eq_true rfl) dX5_advances_229 (fun H locs hP hD hS => ?_)
        have hP : va_P (dC, dI) vwCl [(a_o, .inr (5, [.int o_thrown, .long o_trace, .ref a_o_text, .int o_typed, .int o_next, .int o_token, .int o_place, .int ((((10 : Int32) * o_value) + r_5) - (48 : Int32)), .int o_fault, .ref a_o_need, .ref a_o_made, .ref a_o_skillTold, .ref a_o_placeTold, .ref a_o_skips, .ref a_o_wheelTold, .int o_trades, .int o_people, .int o_draftTrades, .int o_draftPeople, .int o_isShut, .ref a_o_tunes, .ref a_o_s, .ref a_o_spare, .ref a_o_kept, .ref a_o_isKept, .ref a_o_makes, .ref a_o_works, .ref a_o_order, .int o_falling])), (a_o_text, .inl (cI, 400, .inl o_text))] H := hP
        have hD : va_D A [(a_o, .inr (5, [.int o_thrown, .long o_trace, .ref a_o_text, .int o_typed, .int o_next, .int o_token, .int o_place, .int ((((10 : Int32) * o_value) + r_5) - (48 : Int32)), .int o_fault, .ref a_o_need, .ref a_o_made, .ref a_o_skillTold, .ref a_o_placeTold, .ref a_o_skips, .ref a_o_wheelTold, .int o_trades, .int o_people, .int o_draftTrades, .int o_draftPeople, .int o_isShut, .ref a_o_tunes, .ref a_o_s, .ref a_o_spare, .ref a_o_kept, .ref a_o_isKept, .ref a_o_makes, .ref a_o_works, .ref a_o_order, .int o_falling])), (a_o_text, .inl (cI, 400, .inl o_text))] := hD
        refine lv_aload_n hx hb dX5_advances_232 rfl (lv_at hl 0 rfl) ?_
        refine lv_dup hx hb dX5_advances_233 rfl ?_
        refine va_get (D := (dC, dI)) (ci := 5) (v := .int o_next) (C := RX5) (T := TX5) (N := 29) hx hb hts uX5_advances_X5 hown hK hP 0 rfl rfl 4 (by decide) (hts _ mX5_advances_0) (fun _ h9 => h9) rfl dX5_advances_234 ?_
        refine lv_iconst (v := (1 : Int32)) hx hb dX5_advances_237 (by decide) ?_
        refine lv_iadd hx hb dX5_advances_238 ?_
        refine va_put (D := (dC, dI)) (ci := 5) (v := .int (o_next + (1 : Int32))) (ty := .int) (C := RX5) (T := TX5) (N := 29) hx hb hts uX5_advances_X5 tyX5 tyX5_ok nmX5 hown hK hP hD hS 0 rfl rfl 4 (by decide) (hts _ mX5_advances_0) (fun _ h9 => h9) rfl (by decide +kernel) rfl rfl (Nat.le_of_ble_eq_true rfl) dX5_advances_239 (fun H locs hP hD hS => ?_)
        have hP : va_P (dC, dI) vwCl [(a_o, .inr (5, [.int o_thrown, .long o_trace, .ref a_o_text, .int o_typed, .int (o_next + (1 : Int32)), .int o_token, .int o_place, .int ((((10 : Int32) * o_value) + r_5) - (48 : Int32)), .int o_fault, .ref a_o_need, .ref a_o_made, .ref a_o_skillTold, .ref a_o_placeTold, .ref a_o_skips, .ref a_o_wheelTold, .int o_trades, .int o_people, .int o_draftTrades, .int o_draftPeople, .int o_isShut, .ref a_o_tunes, .ref a_o_s, .ref a_o_spare, .ref a_o_kept, .ref a_o_isKept, .ref a_o_makes, .ref a_o_works, .ref a_o_order, .int o_falling])), (a_o_text, .inl (cI, 400, .inl o_text))] H := hP
        have hD : va_D A [(a_o, .inr (5, [.int o_thrown, .long o_trace, .ref a_o_text, .int o_typed, .int (o_next + (1 : Int32)), .int o_token, .int o_place, .int ((((10 : Int32) * o_value) + r_5) - (48 : Int32)), .int o_fault, .ref a_o_need, .ref a_o_made, .ref a_o_skillTold, .ref a_o_placeTold, .ref a_o_skips, .ref a_o_wheelTold, .int o_trades, .int o_people, .int o_draftTrades, .int o_draftPeople, .int o_isShut, .ref a_o_tunes, .ref a_o_s, .ref a_o_spare, .ref a_o_kept, .ref a_o_isKept, .ref a_o_makes, .ref a_o_works, .ref a_o_order, .int o_falling])), (a_o_text, .inl (cI, 400, .inl o_text))] := hD
        refine lv_goto (tgt := 175) hx hb dX5_advances_242 (by decide) ?_
        exact ih _ _ _ _ hf _ _ _ hP hD hS (lv_sub hl [0, 1] rfl) kx
      · have hf := pif hf c_4
        refine lv_aload_n hx hb dX5_advances_203 rfl (lv_at hl 0 rfl) ?_
        refine va_get (D := (dC, dI)) (ci := 5) (v := .int o_value) (C := RX5) (T := TX5) (N := 29) hx hb hts uX5_advances_X5 hown hK hP 0 rfl rfl 7 (by decide) (hts _ mX5_advances_3) (fun _ h9 => h9) rfl dX5_advances_204 ?_
        refine lv_goto (tgt := 229) hx hb dX5_advances_207 (by decide) ?_
        refine va_put (D := (dC, dI)) (ci := 5) (v := .int o_value) (ty := .int) (C := RX5) (T := TX5) (N := 29) hx hb hts uX5_advances_X5 tyX5 tyX5_ok nmX5 hown hK hP hD hS 0 rfl rfl 7 (by decide) (hts _ mX5_advances_3) (fun _ h9 => h9) rfl (by decide +kernel) rfl rfl (Nat.le_of_ble_eq_true rfl) dX5_advances_229 (fun H locs hP hD hS => ?_)
        have hP : va_P (dC, dI) vwCl [(a_o, .inr (5, [.int o_thrown, .long o_trace, .ref a_o_text, .int o_typed, .int o_next, .int o_token, .int o_place, .int o_value, .int o_fault, .ref a_o_need, .ref a_o_made, .ref a_o_skillTold, .ref a_o_placeTold, .ref a_o_skips, .ref a_o_wheelTold, .int o_trades, .int o_people, .int o_draftTrades, .int o_draftPeople, .int o_isShut, .ref a_o_tunes, .ref a_o_s, .ref a_o_spare, .ref a_o_kept, .ref a_o_isKept, .ref a_o_makes, .ref a_o_works, .ref a_o_order, .int o_falling])), (a_o_text, .inl (cI, 400, .inl o_text))] H := hP
        have hD : va_D A [(a_o, .inr (5, [.int o_thrown, .long o_trace, .ref a_o_text, .int o_typed, .int o_next, .int o_token, .int o_place, .int o_value, .int o_fault, .ref a_o_need, .ref a_o_made, .ref a_o_skillTold, .ref a_o_placeTold, .ref a_o_skips, .ref a_o_wheelTold, .int o_trades, .int o_people, .int o_draftTrades, .int o_draftPeople, .int o_isShut, .ref a_o_tunes, .ref a_o_s, .ref a_o_spare, .ref a_o_kept, .ref a_o_isKept, .ref a_o_makes, .ref a_o_works, .ref a_o_order, .int o_falling])), (a_o_text, .inl (cI, 400, .inl o_text))] := hD
        refine lv_aload_n hx hb dX5_advances_232 rfl (lv_at hl 0 rfl) ?_
        refine lv_dup hx hb dX5_advances_233 rfl ?_
        refine va_get (D := (dC, dI)) (ci := 5) (v := .int o_next) (C := RX5) (T := TX5) (N := 29) hx hb hts uX5_advances_X5 hown hK hP 0 rfl rfl 4 (by decide) (hts _ mX5_advances_0) (fun _ h9 => h9) rfl dX5_advances_234 ?_
        refine lv_iconst (v := (1 : Int32)) hx hb dX5_advances_237 (by decide) ?_
        refine lv_iadd hx hb dX5_advances_238 ?_
        refine va_put (D := (dC, dI)) (ci := 5) (v := .int (o_next + (1 : Int32))) (ty := .int) (C := RX5) (T := TX5) (N := 29) hx hb hts uX5_advances_X5 tyX5 tyX5_ok nmX5 hown hK hP hD hS 0 rfl rfl 4 (by decide) (hts _ mX5_advances_0) (fun _ h9 => h9) rfl (by decide +kernel) rfl rfl (Nat.le_of_ble_eq_true rfl) dX5_advances_239 (fun H locs hP hD hS => ?_)
        have hP : va_P (dC, dI) vwCl [(a_o, .inr (5, [.int o_thrown, .long o_trace, .ref a_o_text, .int o_typed, .int (o_next + (1 : Int32)), .int o_token, .int o_place, .int o_value, .int o_fault, .ref a_o_need, .ref a_o_made, .ref a_o_skillTold, .ref a_o_placeTold, .ref a_o_skips, .ref a_o_wheelTold, .int o_trades, .int o_people, .int o_draftTrades, .int o_draftPeople, .int o_isShut, .ref a_o_tunes, .ref a_o_s, .ref a_o_spare, .ref a_o_kept, .ref a_o_isKept, .ref a_o_makes, .ref a_o_works, .ref a_o_order, .int o_falling])), (a_o_text, .inl (cI, 400, .inl o_text))] H := hP
        have hD : va_D A [(a_o, .inr (5, [.int o_thrown, .long o_trace, .ref a_o_text, .int o_typed, .int (o_next + (1 : Int32)), .int o_token, .int o_place, .int o_value, .int o_fault, .ref a_o_need, .ref a_o_made, .ref a_o_skillTold, .ref a_o_placeTold, .ref a_o_skips, .ref a_o_wheelTold, .int o_trades, .int o_people, .int o_draftTrades, .int o_draftPeople, .int o_isShut, .ref a_o_tunes, .ref a_o_s, .ref a_o_spare, .ref a_o_kept, .ref a_o_isKept, .ref a_o_makes, .ref a_o_works, .ref a_o_order, .int o_falling])), (a_o_text, .inl (cI, 400, .inl o_text))] := hD
        refine lv_goto (tgt := 175) hx hb dX5_advances_242 (by decide) ?_
        exact ih _ _ _ _ hf _ _ _ hP hD hS (lv_sub hl [0, 1] rfl) kx
set_option maxHeartbeats 4000000 in
set_option maxRecDepth 100000 in
theorem wX5_advances_68 {p : Program} {l : Launch} {e : Env} {s : State} {m : MethodId} {args : Array Value} {below : List Frame} {meth : Method} {c : Code} {Q : State → Prop} {A : Nat → Prop} {dC : Nat → ClassId} {dI : Nat → Nat → Nat} {Z : gZ} {cC cI cZ cW : ClassId} (hg0 : gX p s m args meth c cX5_advances 4 none wsX5_advances RX5 (dC, dI) Z [(cC, .char), (cI, .int), (cZ, .boolean), (cW, .object RX3)] A) (a_o a_o_text a_o_need a_o_made a_o_skillTold a_o_placeTold a_o_skips a_o_wheelTold a_o_tunes a_o_s a_o_spare a_o_kept a_o_isKept a_o_makes a_o_works a_o_order : Nat) (o_thrown : Int32) (o_trace : Int64) (o_typed : Int32) (o_token : Int32) (o_place : Int32) (o_value : Int32) (o_fault : Int32) (o_trades : Int32) (o_people : Int32) (o_draftTrades : Int32) (o_draftPeople : Int32) (o_isShut : Int32) (o_falling : Int32) (o_text : Nat → Int32)  (N : Nat) : ∀ (n : Nat) (o_next : Int32) (l2 : Int64) (o_next' : Int32) (l2' : Int64), fX5_advances_68 N o_typed o_place o_text n o_next l2 = some (o_next', l2') → ∀ (H : Heap) (locs : List Loc) (ls : Array Slot), va_P (dC, dI) vwCl [(a_o, .inr (5, [.int o_thrown, .long o_trace, .ref a_o_text, .int o_typed, .int o_next, .int o_token, .int o_place, .int o_value, .int o_fault, .ref a_o_need, .ref a_o_made, .ref a_o_skillTold, .ref a_o_placeTold, .ref a_o_skips, .ref a_o_wheelTold, .int o_trades, .int o_people, .int o_draftTrades, .int o_draftPeople, .int o_isShut, .ref a_o_tunes, .ref a_o_s, .ref a_o_spare, .ref a_o_kept, .ref a_o_isKept, .ref a_o_makes, .ref a_o_works, .ref a_o_order, .int o_falling])), (a_o_text, .inl (cI, 400, .inl o_text))] H → va_D A [(a_o, .inr (5, [.int o_thrown, .long o_trace, .ref a_o_text, .int o_typed, .int o_next, .int o_token, .int o_place, .int o_value, .int o_fault, .ref a_o_need, .ref a_o_made, .ref a_o_skillTold, .ref a_o_placeTold, .ref a_o_skips, .ref a_o_wheelTold, .int o_trades, .int o_people, .int o_draftTrades, .int o_draftPeople, .int o_isShut, .ref a_o_tunes, .ref a_o_s, .ref a_o_spare, .ref a_o_kept, .ref a_o_isKept, .ref a_o_makes, .ref a_o_works, .ref a_o_order, .int o_falling])), (a_o_text, .inl (cI, 400, .inl o_text))] → va_S A s.heap H locs → lv_has ls 4 [(0, .ref a_o), (2, .long l2)] → (∀ (H : Heap) (locs : List Loc) (ls : Array Slot), va_P (dC, dI) vwCl [(a_o, .inr (5, [.int o_thrown, .long o_trace, .ref a_o_text, .int o_typed, .int o_next', .int o_token, .int o_place, .int o_value, .int o_fault, .ref a_o_need, .ref a_o_made, .ref a_o_skillTold, .ref a_o_placeTold, .ref a_o_skips, .ref a_o_wheelTold, .int o_trades, .int o_people, .int o_draftTrades, .int o_draftPeople, .int o_isShut, .ref a_o_tunes, .ref a_o_s, .ref a_o_spare, .ref a_o_kept, .ref a_o_isKept, .ref a_o_makes, .ref a_o_works, .ref a_o_order, .int o_falling])), (a_o_text, .inl (cI, 400, .inl o_text))] H → va_D A [(a_o, .inr (5, [.int o_thrown, .long o_trace, .ref a_o_text, .int o_typed, .int o_next', .int o_token, .int o_place, .int o_value, .int o_fault, .ref a_o_need, .ref a_o_made, .ref a_o_skillTold, .ref a_o_placeTold, .ref a_o_skips, .ref a_o_wheelTold, .int o_trades, .int o_people, .int o_draftTrades, .int o_draftPeople, .int o_isShut, .ref a_o_tunes, .ref a_o_s, .ref a_o_spare, .ref a_o_kept, .ref a_o_isKept, .ref a_o_makes, .ref a_o_works, .ref a_o_order, .int o_falling])), (a_o_text, .inl (cI, 400, .inl o_text))] → va_S A s.heap H locs → lv_has ls 4 [(0, .ref a_o), (2, .long l2')] → W p l e (headSpec wsX5_advances rmX5_advances).room s m args below meth c H locs 0 0 Q (F0 m 130 ls [])) → W p l e (headSpec wsX5_advances rmX5_advances).room s m args below meth c H locs 0 0 Q (F0 m 68 ls []) := by
  obtain ⟨hx, hb, hr, hml, hown, hts, hlocks, hA, hK, hN⟩ := id hg0
  have hF : CallFix p m c cX5_advances 4 s args wsX5_advances RX5 := ⟨hx, hb, hml, hown, hts⟩
  intro n
  induction n with
  | zero =>
    intro o_next l2 o_next' l2' hf
    have hf := fX5_advances_68_0.symm.trans hf
    cases hf
  | succ n ih =>
    intro o_next l2 o_next' l2' hf H locs ls hP hD hS hl kx
    have hf := fX5_advances_68_s.symm.trans hf
    refine lv_aload_n hx hb dX5_advances_68 rfl (lv_at hl 0 rfl) ?_
    refine lv_aload_n hx hb dX5_advances_69 rfl (lv_at hl 0 rfl) ?_
    refine va_get (D := (dC, dI)) (ci := 5) (v := .int o_next) (C := RX5) (T := TX5) (N := 29) hx hb hts uX5_advances_X5 hown hK hP 0 rfl rfl 4 (by decide) (hts _ mX5_advances_0) (fun _ h9 => h9) rfl dX5_advances_70 ?_
    obtain ⟨r_1, hc, hf⟩ := pb1 hf
    refine gCi (va_runV (As := [.int o_next]) (rest := []) hF (kX5_byteAt l dC dI Z cC cI cZ cW a_o a_o_text a_o_need a_o_made a_o_skillTold a_o_placeTold a_o_skips a_o_wheelTold a_o_tunes a_o_s a_o_spare a_o_kept a_o_isKept a_o_makes a_o_works a_o_order _ o_thrown o_trace o_typed o_next o_token o_place o_value o_fault o_trades o_people o_draftTrades o_draftPeople o_isShut o_falling o_text o_next N r_1 hc) (cwV 1 hts gX5_advances_X5_byteAt rfl rfl rfl (by decide +kernel) ⟨Nat.le_of_ble_eq_true rfl, Nat.le_of_ble_eq_true rfl⟩) (gPV (wc := [(a_o, .inr (5, [.int o_thrown, .long o_trace, .ref a_o_text, .int o_typed, .int o_next, .int o_token, .int o_place, .int o_value, .int o_fault, .ref a_o_need, .ref a_o_made, .ref a_o_skillTold, .ref a_o_placeTold, .ref a_o_skips, .ref a_o_wheelTold, .int o_trades, .int o_people, .int o_draftTrades, .int o_draftPeople, .int o_isShut, .ref a_o_tunes, .ref a_o_s, .ref a_o_spare, .ref a_o_kept, .ref a_o_isKept, .ref a_o_makes, .ref a_o_works, .ref a_o_order, .int o_falling])), (a_o_text, .inl (cI, 400, .inl o_text))]) hK hN hA hS hP hD [0, 1] rfl rfl (q0 := 0) (ci := 5) rfl rfl rfl) rfl rfl hl.1 rfl (lv_room (Nat.le_of_ble_eq_true rfl)) dX5_advances_73 ⟨Nat.zero_le _, Nat.zero_le _⟩) hP hD hS hA [0, 1] rfl rfl rfl (fun H locs hP hD hS => ?_)
    have hP : va_P (dC, dI) vwCl [(a_o, .inr (5, [.int o_thrown, .long o_trace, .ref a_o_text, .int o_typed, .int o_next, .int o_token, .int o_place, .int o_value, .int o_fault, .ref a_o_need, .ref a_o_made, .ref a_o_skillTold, .ref a_o_placeTold, .ref a_o_skips, .ref a_o_wheelTold, .int o_trades, .int o_people, .int o_draftTrades, .int o_draftPeople, .int o_isShut, .ref a_o_tunes, .ref a_o_s, .ref a_o_spare, .ref a_o_kept, .ref a_o_isKept, .ref a_o_makes, .ref a_o_works, .ref a_o_order, .int o_falling])), (a_o_text, .inl (cI, 400, .inl o_text))] H := hP
    have hD : va_D A [(a_o, .inr (5, [.int o_thrown, .long o_trace, .ref a_o_text, .int o_typed, .int o_next, .int o_token, .int o_place, .int o_value, .int o_fault, .ref a_o_need, .ref a_o_made, .ref a_o_skillTold, .ref a_o_placeTold, .ref a_o_skips, .ref a_o_wheelTold, .int o_trades, .int o_people, .int o_draftTrades, .int o_draftPeople, .int o_isShut, .ref a_o_tunes, .ref a_o_s, .ref a_o_spare, .ref a_o_kept, .ref a_o_isKept, .ref a_o_makes, .ref a_o_works, .ref a_o_order, .int o_falling])), (a_o_text, .inl (cI, 400, .inl o_text))] := hD
    refine lv_bipush (v := (97 : Int32)) hx hb dX5_advances_76 (by decide) ?_
    refine lv_bipush (v := (122 : Int32)) hx hb dX5_advances_78 (by decide) ?_
    obtain ⟨r_2, hc, hf⟩ := pb1 hf
    refine gCi (va_runS (As := [.int r_1, .int (97 : Int32), .int (122 : Int32)]) (rest := []) hF (kX5_in l dC dI Z cC cI cZ cW  _  r_1 (97 : Int32) (122 : Int32) N r_2 hc) (cwS 3 hts gX5_advances_X5_in rfl rfl rfl (by decide +kernel) ⟨Nat.le_of_ble_eq_true rfl, Nat.le_of_ble_eq_true rfl⟩) (gPS (wc := []) hK hN hA hS hP hD [] rfl rfl) rfl rfl hl.1 rfl (lv_room (Nat.le_of_ble_eq_true rfl)) dX5_advances_80 ⟨Nat.zero_le _, Nat.zero_le _⟩) hP hD hS hA [] rfl rfl rfl (fun H locs hP hD hS => ?_)
    have hP : va_P (dC, dI) vwCl [(a_o, .inr (5, [.int o_thrown, .long o_trace, .ref a_o_text, .int o_typed, .int o_next, .int o_token, .int o_place, .int o_value, .int o_fault, .ref a_o_need, .ref a_o_made, .ref a_o_skillTold, .ref a_o_placeTold, .ref a_o_skips, .ref a_o_wheelTold, .int o_trades, .int o_people, .int o_draftTrades, .int o_draftPeople, .int o_isShut, .ref a_o_tunes, .ref a_o_s, .ref a_o_spare, .ref a_o_kept, .ref a_o_isKept, .ref a_o_makes, .ref a_o_works, .ref a_o_order, .int o_falling])), (a_o_text, .inl (cI, 400, .inl o_text))] H := hP
    have hD : va_D A [(a_o, .inr (5, [.int o_thrown, .long o_trace, .ref a_o_text, .int o_typed, .int o_next, .int o_token, .int o_place, .int o_value, .int o_fault, .ref a_o_need, .ref a_o_made, .ref a_o_skillTold, .ref a_o_placeTold, .ref a_o_skips, .ref a_o_wheelTold, .int o_trades, .int o_people, .int o_draftTrades, .int o_draftPeople, .int o_isShut, .ref a_o_tunes, .ref a_o_s, .ref a_o_spare, .ref a_o_kept, .ref a_o_isKept, .ref a_o_makes, .ref a_o_works, .ref a_o_order, .int o_falling])), (a_o_text, .inl (cI, 400, .inl o_text))] := hD
    refine lv_if_eq (tgt := 130) hx hb dX5_advances_83 (by decide) (fun c_3 => ?_) (fun c_3 => ?_)
    · have hf := pit hf c_3
      have q0 := Option.some.inj hf
      obtain ⟨e0, q1⟩ := Prod.mk.inj q0
      subst e0
      subst q1
      exact kx _ _ _ hP hD hS (lv_sub hl [0, 1] rfl)
    · have hf := pif hf c_3
      refine lv_aload_n hx hb dX5_advances_86 rfl (lv_at hl 0 rfl) ?_
      refine va_get (D := (dC, dI)) (ci := 5) (v := .int o_next) (C := RX5) (T := TX5) (N := 29) hx hb hts uX5_advances_X5 hown hK hP 0 rfl rfl 4 (by decide) (hts _ mX5_advances_0) (fun _ h9 => h9) rfl dX5_advances_87 ?_
      refine lv_aload_n hx hb dX5_advances_90 rfl (lv_at hl 0 rfl) ?_
      refine va_get (D := (dC, dI)) (ci := 5) (v := .int o_place) (C := RX5) (T := TX5) (N := 29) hx hb hts uX5_advances_X5 hown hK hP 0 rfl rfl 6 (by decide) (hts _ mX5_advances_1) (fun _ h9 => h9) rfl dX5_advances_91 ?_
      refine lv_isub hx hb dX5_advances_94 ?_
      refine lv_bipush (v := (7 : Int32)) hx hb dX5_advances_95 (by decide) ?_
      refine lv_icmp_ge (tgt := 115) hx hb dX5_advances_97 (by decide) (fun c_4 => ?_) (fun c_4 => ?_)
      · have hf := pit hf c_4
        refine lv_lload_n hx hb dX5_advances_115 rfl (lv_at hl 1 rfl) ?_
        refine lv_lstore_n (lv' := [(2, .long l2), (0, .ref a_o)]) hx hb dX5_advances_116 rfl hl (by decide) rfl (fun ls hl => ?_)
        refine lv_aload_n hx hb dX5_advances_117 rfl (lv_at hl 1 rfl) ?_
        refine lv_dup hx hb dX5_advances_118 rfl ?_
        refine va_get (D := (dC, dI)) (ci := 5) (v := .int o_next) (C := RX5) (T := TX5) (N := 29) hx hb hts uX5_advances_X5 hown hK hP 0 rfl rfl 4 (by decide) (hts _ mX5_advances_0) (fun _ h9 => h9) rfl dX5_advances_119 ?_
        refine lv_iconst (v := (1 : Int32)) hx hb dX5_advances_122 (by decide) ?_
        refine lv_iadd hx hb dX5_advances_123 ?_
        refine va_put (D := (dC, dI)) (ci := 5) (v := .int (o_next + (1 : Int32))) (ty := .int) (C := RX5) (T := TX5) (N := 29) hx hb hts uX5_advances_X5 tyX5 tyX5_ok nmX5 hown hK hP hD hS 0 rfl rfl 4 (by decide) (hts _ mX5_advances_0) (fun _ h9 => h9) rfl (by decide +kernel) rfl rfl (Nat.le_of_ble_eq_true rfl) dX5_advances_124 (fun H locs hP hD hS => ?_)
        have hP : va_P (dC, dI) vwCl [(a_o, .inr (5, [.int o_thrown, .long o_trace, .ref a_o_text, .int o_typed, .int (o_next + (1 : Int32)), .int o_token, .int o_place, .int o_value, .int o_fault, .ref a_o_need, .ref a_o_made, .ref a_o_skillTold, .ref a_o_placeTold, .ref a_o_skips, .ref a_o_wheelTold, .int o_trades, .int o_people, .int o_draftTrades, .int o_draftPeople, .int o_isShut, .ref a_o_tunes, .ref a_o_s, .ref a_o_spare, .ref a_o_kept, .ref a_o_isKept, .ref a_o_makes, .ref a_o_works, .ref a_o_order, .int o_falling])), (a_o_text, .inl (cI, 400, .inl o_text))] H := hP
        have hD : va_D A [(a_o, .inr (5, [.int o_thrown, .long o_trace, .ref a_o_text, .int o_typed, .int (o_next + (1 : Int32)), .int o_token, .int o_place, .int o_value, .int o_fault, .ref a_o_need, .ref a_o_made, .ref a_o_skillTold, .ref a_o_placeTold, .ref a_o_skips, .ref a_o_wheelTold, .int o_trades, .int o_people, .int o_draftTrades, .int o_draftPeople, .int o_isShut, .ref a_o_tunes, .ref a_o_s, .ref a_o_spare, .ref a_o_kept, .ref a_o_isKept, .ref a_o_makes, .ref a_o_works, .ref a_o_order, .int o_falling])), (a_o_text, .inl (cI, 400, .inl o_text))] := hD
        refine lv_goto (tgt := 68) hx hb dX5_advances_127 (by decide) ?_
        exact ih _ _ _ _ hf _ _ _ hP hD hS (lv_sub hl [1, 0] rfl) kx
      · have hf := pif hf c_4
        refine lv_lload_n hx hb dX5_advances_100 rfl (lv_at hl 1 rfl) ?_
        refine lv_aload_n hx hb dX5_advances_101 rfl (lv_at hl 0 rfl) ?_
        refine lv_aload_n hx hb dX5_advances_102 rfl (lv_at hl 0 rfl) ?_
        refine va_get (D := (dC, dI)) (ci := 5) (v := .int o_next) (C := RX5) (T := TX5) (N := 29) hx hb hts uX5_advances_X5 hown hK hP 0 rfl rfl 4 (by decide) (hts _ mX5_advances_0) (fun _ h9 => h9) rfl dX5_advances_103 ?_
        obtain ⟨r_5, hc, hf⟩ := pb1 hf
        refine gCi (va_runV (As := [.int o_next]) (rest := [.long l2]) hF (kX5_byteAt l dC dI Z cC cI cZ cW a_o a_o_text a_o_need a_o_made a_o_skillTold a_o_placeTold a_o_skips a_o_wheelTold a_o_tunes a_o_s a_o_spare a_o_kept a_o_isKept a_o_makes a_o_works a_o_order _ o_thrown o_trace o_typed o_next o_token o_place o_value o_fault o_trades o_people o_draftTrades o_draftPeople o_isShut o_falling o_text o_next N r_5 hc) (cwV 1 hts gX5_advances_X5_byteAt rfl rfl rfl (by decide +kernel) ⟨Nat.le_of_ble_eq_true rfl, Nat.le_of_ble_eq_true rfl⟩) (gPV (wc := [(a_o, .inr (5, [.int o_thrown, .long o_trace, .ref a_o_text, .int o_typed, .int o_next, .int o_token, .int o_place, .int o_value, .int o_fault, .ref a_o_need, .ref a_o_made, .ref a_o_skillTold, .ref a_o_placeTold, .ref a_o_skips, .ref a_o_wheelTold, .int o_trades, .int o_people, .int o_draftTrades, .int o_draftPeople, .int o_isShut, .ref a_o_tunes, .ref a_o_s, .ref a_o_spare, .ref a_o_kept, .ref a_o_isKept, .ref a_o_makes, .ref a_o_works, .ref a_o_order, .int o_falling])), (a_o_text, .inl (cI, 400, .inl o_text))]) hK hN hA hS hP hD [0, 1] rfl rfl (q0 := 0) (ci := 5) rfl rfl rfl) rfl rfl hl.1 rfl (lv_room (Nat.le_of_ble_eq_true rfl)) dX5_advances_106 ⟨Nat.zero_le _, Nat.zero_le _⟩) hP hD hS hA [0, 1] rfl rfl rfl (fun H locs hP hD hS => ?_)
        have hP : va_P (dC, dI) vwCl [(a_o, .inr (5, [.int o_thrown, .long o_trace, .ref a_o_text, .int o_typed, .int o_next, .int o_token, .int o_place, .int o_value, .int o_fault, .ref a_o_need, .ref a_o_made, .ref a_o_skillTold, .ref a_o_placeTold, .ref a_o_skips, .ref a_o_wheelTold, .int o_trades, .int o_people, .int o_draftTrades, .int o_draftPeople, .int o_isShut, .ref a_o_tunes, .ref a_o_s, .ref a_o_spare, .ref a_o_kept, .ref a_o_isKept, .ref a_o_makes, .ref a_o_works, .ref a_o_order, .int o_falling])), (a_o_text, .inl (cI, 400, .inl o_text))] H := hP
        have hD : va_D A [(a_o, .inr (5, [.int o_thrown, .long o_trace, .ref a_o_text, .int o_typed, .int o_next, .int o_token, .int o_place, .int o_value, .int o_fault, .ref a_o_need, .ref a_o_made, .ref a_o_skillTold, .ref a_o_placeTold, .ref a_o_skips, .ref a_o_wheelTold, .int o_trades, .int o_people, .int o_draftTrades, .int o_draftPeople, .int o_isShut, .ref a_o_tunes, .ref a_o_s, .ref a_o_spare, .ref a_o_kept, .ref a_o_isKept, .ref a_o_makes, .ref a_o_works, .ref a_o_order, .int o_falling])), (a_o_text, .inl (cI, 400, .inl o_text))] := hD
        obtain ⟨r_6, hc, hf⟩ := pb1 hf
        refine gCl (va_runS (As := [.long l2, .int r_5]) (rest := []) hF (kX5_add l dC dI Z cC cI cZ cW  _  l2 r_5 N r_6 hc) (cwS 2 hts gX5_advances_X5_add rfl rfl rfl (by decide +kernel) ⟨Nat.le_of_ble_eq_true rfl, Nat.le_of_ble_eq_true rfl⟩) (gPS (wc := []) hK hN hA hS hP hD [] rfl rfl) rfl rfl hl.1 rfl (lv_room (Nat.le_of_ble_eq_true rfl)) dX5_advances_109 ⟨Nat.zero_le _, Nat.zero_le _⟩) hP hD hS hA [] rfl rfl rfl (fun H locs hP hD hS => ?_)
        have hP : va_P (dC, dI) vwCl [(a_o, .inr (5, [.int o_thrown, .long o_trace, .ref a_o_text, .int o_typed, .int o_next, .int o_token, .int o_place, .int o_value, .int o_fault, .ref a_o_need, .ref a_o_made, .ref a_o_skillTold, .ref a_o_placeTold, .ref a_o_skips, .ref a_o_wheelTold, .int o_trades, .int o_people, .int o_draftTrades, .int o_draftPeople, .int o_isShut, .ref a_o_tunes, .ref a_o_s, .ref a_o_spare, .ref a_o_kept, .ref a_o_isKept, .ref a_o_makes, .ref a_o_works, .ref a_o_order, .int o_falling])), (a_o_text, .inl (cI, 400, .inl o_text))] H := hP
        have hD : va_D A [(a_o, .inr (5, [.int o_thrown, .long o_trace, .ref a_o_text, .int o_typed, .int o_next, .int o_token, .int o_place, .int o_value, .int o_fault, .ref a_o_need, .ref a_o_made, .ref a_o_skillTold, .ref a_o_placeTold, .ref a_o_skips, .ref a_o_wheelTold, .int o_trades, .int o_people, .int o_draftTrades, .int o_draftPeople, .int o_isShut, .ref a_o_tunes, .ref a_o_s, .ref a_o_spare, .ref a_o_kept, .ref a_o_isKept, .ref a_o_makes, .ref a_o_works, .ref a_o_order, .int o_falling])), (a_o_text, .inl (cI, 400, .inl o_text))] := hD
        refine lv_goto (tgt := 116) hx hb dX5_advances_112 (by decide) ?_
        refine lv_lstore_n (lv' := [(2, .long r_6), (0, .ref a_o)]) hx hb dX5_advances_116 rfl hl (by decide) rfl (fun ls hl => ?_)
        refine lv_aload_n hx hb dX5_advances_117 rfl (lv_at hl 1 rfl) ?_
        refine lv_dup hx hb dX5_advances_118 rfl ?_
        refine va_get (D := (dC, dI)) (ci := 5) (v := .int o_next) (C := RX5) (T := TX5) (N := 29) hx hb hts uX5_advances_X5 hown hK hP 0 rfl rfl 4 (by decide) (hts _ mX5_advances_0) (fun _ h9 => h9) rfl dX5_advances_119 ?_
        refine lv_iconst (v := (1 : Int32)) hx hb dX5_advances_122 (by decide) ?_
        refine lv_iadd hx hb dX5_advances_123 ?_
        refine va_put (D := (dC, dI)) (ci := 5) (v := .int (o_next + (1 : Int32))) (ty := .int) (C := RX5) (T := TX5) (N := 29) hx hb hts uX5_advances_X5 tyX5 tyX5_ok nmX5 hown hK hP hD hS 0 rfl rfl 4 (by decide) (hts _ mX5_advances_0) (fun _ h9 => h9) rfl (by decide +kernel) rfl rfl (Nat.le_of_ble_eq_true rfl) dX5_advances_124 (fun H locs hP hD hS => ?_)
        have hP : va_P (dC, dI) vwCl [(a_o, .inr (5, [.int o_thrown, .long o_trace, .ref a_o_text, .int o_typed, .int (o_next + (1 : Int32)), .int o_token, .int o_place, .int o_value, .int o_fault, .ref a_o_need, .ref a_o_made, .ref a_o_skillTold, .ref a_o_placeTold, .ref a_o_skips, .ref a_o_wheelTold, .int o_trades, .int o_people, .int o_draftTrades, .int o_draftPeople, .int o_isShut, .ref a_o_tunes, .ref a_o_s, .ref a_o_spare, .ref a_o_kept, .ref a_o_isKept, .ref a_o_makes, .ref a_o_works, .ref a_o_order, .int o_falling])), (a_o_text, .inl (cI, 400, .inl o_text))] H := hP
        have hD : va_D A [(a_o, .inr (5, [.int o_thrown, .long o_trace, .ref a_o_text, .int o_typed, .int (o_next + (1 : Int32)), .int o_token, .int o_place, .int o_value, .int o_fault, .ref a_o_need, .ref a_o_made, .ref a_o_skillTold, .ref a_o_placeTold, .ref a_o_skips, .ref a_o_wheelTold, .int o_trades, .int o_people, .int o_draftTrades, .int o_draftPeople, .int o_isShut, .ref a_o_tunes, .ref a_o_s, .ref a_o_spare, .ref a_o_kept, .ref a_o_isKept, .ref a_o_makes, .ref a_o_works, .ref a_o_order, .int o_falling])), (a_o_text, .inl (cI, 400, .inl o_text))] := hD
        refine lv_goto (tgt := 68) hx hb dX5_advances_127 (by decide) ?_
        exact ih _ _ _ _ hf _ _ _ hP hD hS (lv_sub hl [1, 0] rfl) kx
set_option maxHeartbeats 4000000 in
set_option maxRecDepth 100000 in
theorem kX5_advances (l : Launch) (dC : Nat → ClassId) (dI : Nat → Nat → Nat) (Z : gZ) (cC cI cZ cW : ClassId) (a_o a_o_text a_o_need a_o_made a_o_skillTold a_o_placeTold a_o_skips a_o_wheelTold a_o_tunes a_o_s a_o_spare a_o_kept a_o_isKept a_o_makes a_o_works a_o_order : Nat) (sz : Nat) (o_thrown : Int32) (o_trace : Int64) (o_typed : Int32) (o_next : Int32) (o_token : Int32) (o_place : Int32) (o_value : Int32) (o_fault : Int32) (o_trades : Int32) (o_people : Int32) (o_draftTrades : Int32) (o_draftPeople : Int32) (o_isShut : Int32) (o_falling : Int32) (o_text : Nat → Int32)  (N : Nat) (o_next' : Int32) (o_token' : Int32) (o_place' : Int32) (o_value' : Int32) (hf : fX5_advances N o_typed o_next o_token o_place o_value o_text   = some (o_next', o_token', o_place', o_value')) : Met l yX5_advances wsX5_advances rmX5_advances (va_Pc [.ref a_o] (gB (dC, dI) Z [(cC, .char), (cI, .int), (cZ, .boolean), (cW, .object RX3)] [(a_o, .inr (5, [.int o_thrown, .long o_trace, .ref a_o_text, .int o_typed, .int o_next, .int o_token, .int o_place, .int o_value, .int o_fault, .ref a_o_need, .ref a_o_made, .ref a_o_skillTold, .ref a_o_placeTold, .ref a_o_skips, .ref a_o_wheelTold, .int o_trades, .int o_people, .int o_draftTrades, .int o_draftPeople, .int o_isShut, .ref a_o_tunes, .ref a_o_s, .ref a_o_spare, .ref a_o_kept, .ref a_o_isKept, .ref a_o_makes, .ref a_o_works, .ref a_o_order, .int o_falling])), (a_o_text, .inl (cI, 400, .inl o_text))] sz)) (va_Qv (fun (_ : Unit) => True) (gE (dC, dI) [(a_o, .inr (5, [.int o_thrown, .long o_trace, .ref a_o_text, .int o_typed, .int o_next', .int o_token', .int o_place', .int o_value', .int o_fault, .ref a_o_need, .ref a_o_made, .ref a_o_skillTold, .ref a_o_placeTold, .ref a_o_skips, .ref a_o_wheelTold, .int o_trades, .int o_people, .int o_draftTrades, .int o_draftPeople, .int o_isShut, .ref a_o_tunes, .ref a_o_s, .ref a_o_spare, .ref a_o_kept, .ref a_o_isKept, .ref a_o_makes, .ref a_o_works, .ref a_o_order, .int o_falling])), (a_o_text, .inl (cI, 400, .inl o_text))]) (va_A [(a_o, .inr (5, [.int o_thrown, .long o_trace, .ref a_o_text, .int o_typed, .int o_next, .int o_token, .int o_place, .int o_value, .int o_fault, .ref a_o_need, .ref a_o_made, .ref a_o_skillTold, .ref a_o_placeTold, .ref a_o_skips, .ref a_o_wheelTold, .int o_trades, .int o_people, .int o_draftTrades, .int o_draftPeople, .int o_isShut, .ref a_o_tunes, .ref a_o_s, .ref a_o_spare, .ref a_o_kept, .ref a_o_isKept, .ref a_o_makes, .ref a_o_works, .ref a_o_order, .int o_falling])), (a_o_text, .inl (cI, 400, .inl o_text))] sz)) 0 0 (va_A [(a_o, .inr (5, [.int o_thrown, .long o_trace, .ref a_o_text, .int o_typed, .int o_next, .int o_token, .int o_place, .int o_value, .int o_fault, .ref a_o_need, .ref a_o_made, .ref a_o_skillTold, .ref a_o_placeTold, .ref a_o_skips, .ref a_o_wheelTold, .int o_trades, .int o_people, .int o_draftTrades, .int o_draftPeople, .int o_isShut, .ref a_o_tunes, .ref a_o_s, .ref a_o_spare, .ref a_o_kept, .ref a_o_isKept, .ref a_o_makes, .ref a_o_works, .ref a_o_order, .int o_falling])), (a_o_text, .inl (cI, 400, .inl o_text))] sz) := by
  refine gMet (cc := cX5_advances) (maxL := 4) (ret := none) (Qc := fun A => va_Qv (fun (_ : Unit) => True) (gE (dC, dI) [(a_o, .inr (5, [.int o_thrown, .long o_trace, .ref a_o_text, .int o_typed, .int o_next', .int o_token', .int o_place', .int o_value', .int o_fault, .ref a_o_need, .ref a_o_made, .ref a_o_skillTold, .ref a_o_placeTold, .ref a_o_skips, .ref a_o_wheelTold, .int o_trades, .int o_people, .int o_draftTrades, .int o_draftPeople, .int o_isShut, .ref a_o_tunes, .ref a_o_s, .ref a_o_spare, .ref a_o_kept, .ref a_o_isKept, .ref a_o_makes, .ref a_o_works, .ref a_o_order, .int o_falling])), (a_o_text, .inl (cI, 400, .inl o_text))]) A) (by decide) rfl (Nat.le_of_ble_eq_true rfl) ?_
  intro p e s m below meth c A ls hg0 _ hsz hP hD hS hl
  have hg0 : gX p s m _ meth c cX5_advances 4 none wsX5_advances RX5 (dC, dI) Z [(cC, .char), (cI, .int), (cZ, .boolean), (cW, .object RX3)] A := hg0
  obtain ⟨hx, hb, hr, hml, hown, hts, hlocks, hA, hK, hN⟩ := id hg0
  subst hsz
  have hF : CallFix p m c cX5_advances 4 s _ wsX5_advances RX5 := ⟨hx, hb, hml, hown, hts⟩
  have hl : lv_has ls 4 [(0, .ref a_o)] := hl
  unfold fX5_advances at hf
  obtain ⟨o_next_1, hc, hf⟩ := pb1 hf
  refine wX5_advances_0 hg0 a_o a_o_text a_o_need a_o_made a_o_skillTold a_o_placeTold a_o_skips a_o_wheelTold a_o_tunes a_o_s a_o_spare a_o_kept a_o_isKept a_o_makes a_o_works a_o_order o_thrown o_trace o_typed o_token o_place o_value o_fault o_trades o_people o_draftTrades o_draftPeople o_isShut o_falling o_text  N N o_next o_next_1 hc _ _ _ hP hD hS (lv_sub hl [0] rfl) (fun H locs ls hP hD hS hl => ?_)
  refine lv_aload_n hx hb dX5_advances_26 rfl (lv_at hl 0 rfl) ?_
  refine lv_aload_n hx hb dX5_advances_27 rfl (lv_at hl 0 rfl) ?_
  refine va_get (D := (dC, dI)) (ci := 5) (v := .int o_next_1) (C := RX5) (T := TX5) (N := 29) hx hb hts uX5_advances_X5 hown hK hP 0 rfl rfl 4 (by decide) (hts _ mX5_advances_0) (fun _ h9 => h9) rfl dX5_advances_28 ?_
  refine va_put (D := (dC, dI)) (ci := 5) (v := .int o_next_1) (ty := .int) (C := RX5) (T := TX5) (N := 29) hx hb hts uX5_advances_X5 tyX5 tyX5_ok nmX5 hown hK hP hD hS 0 rfl rfl 6 (by decide) (hts _ mX5_advances_1) (fun _ h9 => h9) rfl (by decide +kernel) rfl rfl (Nat.le_of_ble_eq_true rfl) dX5_advances_31 (fun H locs hP hD hS => ?_)
  have hP : va_P (dC, dI) vwCl [(a_o, .inr (5, [.int o_thrown, .long o_trace, .ref a_o_text, .int o_typed, .int o_next_1, .int o_token, .int o_next_1, .int o_value, .int o_fault, .ref a_o_need, .ref a_o_made, .ref a_o_skillTold, .ref a_o_placeTold, .ref a_o_skips, .ref a_o_wheelTold, .int o_trades, .int o_people, .int o_draftTrades, .int o_draftPeople, .int o_isShut, .ref a_o_tunes, .ref a_o_s, .ref a_o_spare, .ref a_o_kept, .ref a_o_isKept, .ref a_o_makes, .ref a_o_works, .ref a_o_order, .int o_falling])), (a_o_text, .inl (cI, 400, .inl o_text))] H := hP
  have hD : va_D A [(a_o, .inr (5, [.int o_thrown, .long o_trace, .ref a_o_text, .int o_typed, .int o_next_1, .int o_token, .int o_next_1, .int o_value, .int o_fault, .ref a_o_need, .ref a_o_made, .ref a_o_skillTold, .ref a_o_placeTold, .ref a_o_skips, .ref a_o_wheelTold, .int o_trades, .int o_people, .int o_draftTrades, .int o_draftPeople, .int o_isShut, .ref a_o_tunes, .ref a_o_s, .ref a_o_spare, .ref a_o_kept, .ref a_o_isKept, .ref a_o_makes, .ref a_o_works, .ref a_o_order, .int o_falling])), (a_o_text, .inl (cI, 400, .inl o_text))] := hD
  refine lv_aload_n hx hb dX5_advances_34 rfl (lv_at hl 0 rfl) ?_
  refine lv_aload_n hx hb dX5_advances_35 rfl (lv_at hl 0 rfl) ?_
  refine va_get (D := (dC, dI)) (ci := 5) (v := .int o_next_1) (C := RX5) (T := TX5) (N := 29) hx hb hts uX5_advances_X5 hown hK hP 0 rfl rfl 4 (by decide) (hts _ mX5_advances_0) (fun _ h9 => h9) rfl dX5_advances_36 ?_
  obtain ⟨r_2, hc, hf⟩ := pb1 hf
  refine gCi (va_runV (As := [.int o_next_1]) (rest := []) hF (kX5_byteAt l dC dI Z cC cI cZ cW a_o a_o_text a_o_need a_o_made a_o_skillTold a_o_placeTold a_o_skips a_o_wheelTold a_o_tunes a_o_s a_o_spare a_o_kept a_o_isKept a_o_makes a_o_works a_o_order _ o_thrown o_trace o_typed o_next_1 o_token o_next_1 o_value o_fault o_trades o_people o_draftTrades o_draftPeople o_isShut o_falling o_text o_next_1 N r_2 hc) (cwV 1 hts gX5_advances_X5_byteAt rfl rfl rfl (by decide +kernel) ⟨Nat.le_of_ble_eq_true rfl, Nat.le_of_ble_eq_true rfl⟩) (gPV (wc := [(a_o, .inr (5, [.int o_thrown, .long o_trace, .ref a_o_text, .int o_typed, .int o_next_1, .int o_token, .int o_next_1, .int o_value, .int o_fault, .ref a_o_need, .ref a_o_made, .ref a_o_skillTold, .ref a_o_placeTold, .ref a_o_skips, .ref a_o_wheelTold, .int o_trades, .int o_people, .int o_draftTrades, .int o_draftPeople, .int o_isShut, .ref a_o_tunes, .ref a_o_s, .ref a_o_spare, .ref a_o_kept, .ref a_o_isKept, .ref a_o_makes, .ref a_o_works, .ref a_o_order, .int o_falling])), (a_o_text, .inl (cI, 400, .inl o_text))]) hK hN hA hS hP hD [0, 1] rfl rfl (q0 := 0) (ci := 5) rfl rfl rfl) rfl rfl hl.1 rfl (lv_room (Nat.le_of_ble_eq_true rfl)) dX5_advances_39 ⟨Nat.zero_le _, Nat.zero_le _⟩) hP hD hS hA [0, 1] rfl rfl rfl (fun H locs hP hD hS => ?_)
  have hP : va_P (dC, dI) vwCl [(a_o, .inr (5, [.int o_thrown, .long o_trace, .ref a_o_text, .int o_typed, .int o_next_1, .int o_token, .int o_next_1, .int o_value, .int o_fault, .ref a_o_need, .ref a_o_made, .ref a_o_skillTold, .ref a_o_placeTold, .ref a_o_skips, .ref a_o_wheelTold, .int o_trades, .int o_people, .int o_draftTrades, .int o_draftPeople, .int o_isShut, .ref a_o_tunes, .ref a_o_s, .ref a_o_spare, .ref a_o_kept, .ref a_o_isKept, .ref a_o_makes, .ref a_o_works, .ref a_o_order, .int o_falling])), (a_o_text, .inl (cI, 400, .inl o_text))] H := hP
  have hD : va_D A [(a_o, .inr (5, [.int o_thrown, .long o_trace, .ref a_o_text, .int o_typed, .int o_next_1, .int o_token, .int o_next_1, .int o_value, .int o_fault, .ref a_o_need, .ref a_o_made, .ref a_o_skillTold, .ref a_o_placeTold, .ref a_o_skips, .ref a_o_wheelTold, .int o_trades, .int o_people, .int o_draftTrades, .int o_draftPeople, .int o_isShut, .ref a_o_tunes, .ref a_o_s, .ref a_o_spare, .ref a_o_kept, .ref a_o_isKept, .ref a_o_makes, .ref a_o_works, .ref a_o_order, .int o_falling])), (a_o_text, .inl (cI, 400, .inl o_text))] := hD
  refine lv_istore_n (lv' := [(1, .int r_2), (0, .ref a_o)]) hx hb dX5_advances_42 rfl hl (by decide) rfl (fun ls hl => ?_)
  refine lv_iload_n hx hb dX5_advances_43 rfl (lv_at hl 0 rfl) ?_
  refine lv_if_ge (tgt := 55) hx hb dX5_advances_44 (by decide) (fun c_3 => ?_) (fun c_3 => ?_)
  · have hf := pit hf c_3
    refine lv_iload_n hx hb dX5_advances_55 rfl (lv_at hl 0 rfl) ?_
    refine lv_bipush (v := (97 : Int32)) hx hb dX5_advances_56 (by decide) ?_
    refine lv_bipush (v := (122 : Int32)) hx hb dX5_advances_58 (by decide) ?_
    obtain ⟨r_4, hc, hf⟩ := pb1 hf
    refine gCi (va_runS (As := [.int r_2, .int (97 : Int32), .int (122 : Int32)]) (rest := []) hF (kX5_in l dC dI Z cC cI cZ cW  _  r_2 (97 : Int32) (122 : Int32) N r_4 hc) (cwS 3 hts gX5_advances_X5_in rfl rfl rfl (by decide +kernel) ⟨Nat.le_of_ble_eq_true rfl, Nat.le_of_ble_eq_true rfl⟩) (gPS (wc := []) hK hN hA hS hP hD [] rfl rfl) rfl rfl hl.1 rfl (lv_room (Nat.le_of_ble_eq_true rfl)) dX5_advances_60 ⟨Nat.zero_le _, Nat.zero_le _⟩) hP hD hS hA [] rfl rfl rfl (fun H locs hP hD hS => ?_)
    have hP : va_P (dC, dI) vwCl [(a_o, .inr (5, [.int o_thrown, .long o_trace, .ref a_o_text, .int o_typed, .int o_next_1, .int o_token, .int o_next_1, .int o_value, .int o_fault, .ref a_o_need, .ref a_o_made, .ref a_o_skillTold, .ref a_o_placeTold, .ref a_o_skips, .ref a_o_wheelTold, .int o_trades, .int o_people, .int o_draftTrades, .int o_draftPeople, .int o_isShut, .ref a_o_tunes, .ref a_o_s, .ref a_o_spare, .ref a_o_kept, .ref a_o_isKept, .ref a_o_makes, .ref a_o_works, .ref a_o_order, .int o_falling])), (a_o_text, .inl (cI, 400, .inl o_text))] H := hP
    have hD : va_D A [(a_o, .inr (5, [.int o_thrown, .long o_trace, .ref a_o_text, .int o_typed, .int o_next_1, .int o_token, .int o_next_1, .int o_value, .int o_fault, .ref a_o_need, .ref a_o_made, .ref a_o_skillTold, .ref a_o_placeTold, .ref a_o_skips, .ref a_o_wheelTold, .int o_trades, .int o_people, .int o_draftTrades, .int o_draftPeople, .int o_isShut, .ref a_o_tunes, .ref a_o_s, .ref a_o_spare, .ref a_o_kept, .ref a_o_isKept, .ref a_o_makes, .ref a_o_works, .ref a_o_order, .int o_falling])), (a_o_text, .inl (cI, 400, .inl o_text))] := hD
    refine lv_if_eq (tgt := 159) hx hb dX5_advances_63 (by decide) (fun c_5 => ?_) (fun c_5 => ?_)
    · have hf := pit hf c_5
      refine lv_iload_n hx hb dX5_advances_159 rfl (lv_at hl 0 rfl) ?_
      refine lv_bipush (v := (48 : Int32)) hx hb dX5_advances_160 (by decide) ?_
      refine lv_bipush (v := (57 : Int32)) hx hb dX5_advances_162 (by decide) ?_
      obtain ⟨r_6, hc, hf⟩ := pb1 hf
      refine gCi (va_runS (As := [.int r_2, .int (48 : Int32), .int (57 : Int32)]) (rest := []) hF (kX5_in l dC dI Z cC cI cZ cW  _  r_2 (48 : Int32) (57 : Int32) N r_6 hc) (cwS 3 hts gX5_advances_X5_in rfl rfl rfl (by decide +kernel) ⟨Nat.le_of_ble_eq_true rfl, Nat.le_of_ble_eq_true rfl⟩) (gPS (wc := []) hK hN hA hS hP hD [] rfl rfl) rfl rfl hl.1 rfl (lv_room (Nat.le_of_ble_eq_true rfl)) dX5_advances_164 ⟨Nat.zero_le _, Nat.zero_le _⟩) hP hD hS hA [] rfl rfl rfl (fun H locs hP hD hS => ?_)
      have hP : va_P (dC, dI) vwCl [(a_o, .inr (5, [.int o_thrown, .long o_trace, .ref a_o_text, .int o_typed, .int o_next_1, .int o_token, .int o_next_1, .int o_value, .int o_fault, .ref a_o_need, .ref a_o_made, .ref a_o_skillTold, .ref a_o_placeTold, .ref a_o_skips, .ref a_o_wheelTold, .int o_trades, .int o_people, .int o_draftTrades, .int o_draftPeople, .int o_isShut, .ref a_o_tunes, .ref a_o_s, .ref a_o_spare, .ref a_o_kept, .ref a_o_isKept, .ref a_o_makes, .ref a_o_works, .ref a_o_order, .int o_falling])), (a_o_text, .inl (cI, 400, .inl o_text))] H := hP
      have hD : va_D A [(a_o, .inr (5, [.int o_thrown, .long o_trace, .ref a_o_text, .int o_typed, .int o_next_1, .int o_token, .int o_next_1, .int o_value, .int o_fault, .ref a_o_need, .ref a_o_made, .ref a_o_skillTold, .ref a_o_placeTold, .ref a_o_skips, .ref a_o_wheelTold, .int o_trades, .int o_people, .int o_draftTrades, .int o_draftPeople, .int o_isShut, .ref a_o_tunes, .ref a_o_s, .ref a_o_spare, .ref a_o_kept, .ref a_o_isKept, .ref a_o_makes, .ref a_o_works, .ref a_o_order, .int o_falling])), (a_o_text, .inl (cI, 400, .inl o_text))] := hD
      refine lv_if_eq (tgt := 285) hx hb dX5_advances_167 (by decide) (fun c_7 => ?_) (fun c_7 => ?_)
      · have hf := pit hf c_7
        refine lv_aload_n hx hb dX5_advances_285 rfl (lv_at hl 1 rfl) ?_
        refine lv_dup hx hb dX5_advances_286 rfl ?_
        refine va_get (D := (dC, dI)) (ci := 5) (v := .int o_next_1) (C := RX5) (T := TX5) (N := 29) hx hb hts uX5_advances_X5 hown hK hP 0 rfl rfl 4 (by decide) (hts _ mX5_advances_0) (fun _ h9 => h9) rfl dX5_advances_287 ?_
        refine lv_iconst (v := (1 : Int32)) hx hb dX5_advances_290 (by decide) ?_
        refine lv_iadd hx hb dX5_advances_291 ?_
        refine va_put (D := (dC, dI)) (ci := 5) (v := .int (o_next_1 + (1 : Int32))) (ty := .int) (C := RX5) (T := TX5) (N := 29) hx hb hts uX5_advances_X5 tyX5 tyX5_ok nmX5 hown hK hP hD hS 0 rfl rfl 4 (by decide) (hts _ mX5_advances_0) (fun _ h9 => h9) rfl (by decide +kernel) rfl rfl (Nat.le_of_ble_eq_true rfl) dX5_advances_292 (fun H locs hP hD hS => ?_)
        have hP : va_P (dC, dI) vwCl [(a_o, .inr (5, [.int o_thrown, .long o_trace, .ref a_o_text, .int o_typed, .int (o_next_1 + (1 : Int32)), .int o_token, .int o_next_1, .int o_value, .int o_fault, .ref a_o_need, .ref a_o_made, .ref a_o_skillTold, .ref a_o_placeTold, .ref a_o_skips, .ref a_o_wheelTold, .int o_trades, .int o_people, .int o_draftTrades, .int o_draftPeople, .int o_isShut, .ref a_o_tunes, .ref a_o_s, .ref a_o_spare, .ref a_o_kept, .ref a_o_isKept, .ref a_o_makes, .ref a_o_works, .ref a_o_order, .int o_falling])), (a_o_text, .inl (cI, 400, .inl o_text))] H := hP
        have hD : va_D A [(a_o, .inr (5, [.int o_thrown, .long o_trace, .ref a_o_text, .int o_typed, .int (o_next_1 + (1 : Int32)), .int o_token, .int o_next_1, .int o_value, .int o_fault, .ref a_o_need, .ref a_o_made, .ref a_o_skillTold, .ref a_o_placeTold, .ref a_o_skips, .ref a_o_wheelTold, .int o_trades, .int o_people, .int o_draftTrades, .int o_draftPeople, .int o_isShut, .ref a_o_tunes, .ref a_o_s, .ref a_o_spare, .ref a_o_kept, .ref a_o_isKept, .ref a_o_makes, .ref a_o_works, .ref a_o_order, .int o_falling])), (a_o_text, .inl (cI, 400, .inl o_text))] := hD
        refine lv_aload_n hx hb dX5_advances_295 rfl (lv_at hl 1 rfl) ?_
        refine lv_iload_n hx hb dX5_advances_296 rfl (lv_at hl 0 rfl) ?_
        refine lv_bipush (v := (59 : Int32)) hx hb dX5_advances_297 (by decide) ?_
        refine lv_icmp_ne (tgt := 306) hx hb dX5_advances_299 (by decide) (fun c_8 => ?_) (fun c_8 => ?_)
        · have hf := pif hf c_8
          refine lv_iconst (v := (4 : Int32)) hx hb dX5_advances_306 (by decide) ?_
          refine va_put (D := (dC, dI)) (ci := 5) (v := .int (4 : Int32)) (ty := .int) (C := RX5) (T := TX5) (N := 29) hx hb hts uX5_advances_X5 tyX5 tyX5_ok nmX5 hown hK hP hD hS 0 rfl rfl 5 (by decide) (hts _ mX5_advances_2) (fun _ h9 => h9) rfl (by decide +kernel) rfl rfl (Nat.le_of_ble_eq_true rfl) dX5_advances_307 (fun H locs hP hD hS => ?_)
          have hP : va_P (dC, dI) vwCl [(a_o, .inr (5, [.int o_thrown, .long o_trace, .ref a_o_text, .int o_typed, .int (o_next_1 + (1 : Int32)), .int (4 : Int32), .int o_next_1, .int o_value, .int o_fault, .ref a_o_need, .ref a_o_made, .ref a_o_skillTold, .ref a_o_placeTold, .ref a_o_skips, .ref a_o_wheelTold, .int o_trades, .int o_people, .int o_draftTrades, .int o_draftPeople, .int o_isShut, .ref a_o_tunes, .ref a_o_s, .ref a_o_spare, .ref a_o_kept, .ref a_o_isKept, .ref a_o_makes, .ref a_o_works, .ref a_o_order, .int o_falling])), (a_o_text, .inl (cI, 400, .inl o_text))] H := hP
          have hD : va_D A [(a_o, .inr (5, [.int o_thrown, .long o_trace, .ref a_o_text, .int o_typed, .int (o_next_1 + (1 : Int32)), .int (4 : Int32), .int o_next_1, .int o_value, .int o_fault, .ref a_o_need, .ref a_o_made, .ref a_o_skillTold, .ref a_o_placeTold, .ref a_o_skips, .ref a_o_wheelTold, .int o_trades, .int o_people, .int o_draftTrades, .int o_draftPeople, .int o_isShut, .ref a_o_tunes, .ref a_o_s, .ref a_o_spare, .ref a_o_kept, .ref a_o_isKept, .ref a_o_makes, .ref a_o_works, .ref a_o_order, .int o_falling])), (a_o_text, .inl (cI, 400, .inl o_text))] := hD
          have q0 := Option.some.inj hf
          obtain ⟨e0, q1⟩ := Prod.mk.inj q0
          obtain ⟨e1, q2⟩ := Prod.mk.inj q1
          obtain ⟨e2, q3⟩ := Prod.mk.inj q2
          subst e0
          subst e1
          subst e2
          subst q3
          exact gRv hx hb hr hlocks hP hS dX5_advances_310
        · have hf := pit hf c_8
          refine lv_iconst (v := (3 : Int32)) hx hb dX5_advances_302 (by decide) ?_
          refine lv_goto (tgt := 307) hx hb dX5_advances_303 (by decide) ?_
          refine va_put (D := (dC, dI)) (ci := 5) (v := .int (3 : Int32)) (ty := .int) (C := RX5) (T := TX5) (N := 29) hx hb hts uX5_advances_X5 tyX5 tyX5_ok nmX5 hown hK hP hD hS 0 rfl rfl 5 (by decide) (hts _ mX5_advances_2) (fun _ h9 => h9) rfl (by decide +kernel) rfl rfl (Nat.le_of_ble_eq_true rfl) dX5_advances_307 (fun H locs hP hD hS => ?_)
          have hP : va_P (dC, dI) vwCl [(a_o, .inr (5, [.int o_thrown, .long o_trace, .ref a_o_text, .int o_typed, .int (o_next_1 + (1 : Int32)), .int (3 : Int32), .int o_next_1, .int o_value, .int o_fault, .ref a_o_need, .ref a_o_made, .ref a_o_skillTold, .ref a_o_placeTold, .ref a_o_skips, .ref a_o_wheelTold, .int o_trades, .int o_people, .int o_draftTrades, .int o_draftPeople, .int o_isShut, .ref a_o_tunes, .ref a_o_s, .ref a_o_spare, .ref a_o_kept, .ref a_o_isKept, .ref a_o_makes, .ref a_o_works, .ref a_o_order, .int o_falling])), (a_o_text, .inl (cI, 400, .inl o_text))] H := hP
          have hD : va_D A [(a_o, .inr (5, [.int o_thrown, .long o_trace, .ref a_o_text, .int o_typed, .int (o_next_1 + (1 : Int32)), .int (3 : Int32), .int o_next_1, .int o_value, .int o_fault, .ref a_o_need, .ref a_o_made, .ref a_o_skillTold, .ref a_o_placeTold, .ref a_o_skips, .ref a_o_wheelTold, .int o_trades, .int o_people, .int o_draftTrades, .int o_draftPeople, .int o_isShut, .ref a_o_tunes, .ref a_o_s, .ref a_o_spare, .ref a_o_kept, .ref a_o_isKept, .ref a_o_makes, .ref a_o_works, .ref a_o_order, .int o_falling])), (a_o_text, .inl (cI, 400, .inl o_text))] := hD
          have q0 := Option.some.inj hf
          obtain ⟨e0, q1⟩ := Prod.mk.inj q0
          obtain ⟨e1, q2⟩ := Prod.mk.inj q1
          obtain ⟨e2, q3⟩ := Prod.mk.inj q2
          subst e0
          subst e1
          subst e2
          subst q3
          exact gRv hx hb hr hlocks hP hS dX5_advances_310
      · have hf := pif hf c_7
        refine lv_aload_n hx hb dX5_advances_170 rfl (lv_at hl 1 rfl) ?_
        refine lv_iconst (v := (0 : Int32)) hx hb dX5_advances_171 (by decide) ?_
        refine va_put (D := (dC, dI)) (ci := 5) (v := .int (0 : Int32)) (ty := .int) (C := RX5) (T := TX5) (N := 29) hx hb hts uX5_advances_X5 tyX5 tyX5_ok nmX5 hown hK hP hD hS 0 rfl rfl 7 (by decide) (hts _ mX5_advances_3) (fun _ h9 => h9) rfl (by decide +kernel) rfl rfl (Nat.le_of_ble_eq_true rfl) dX5_advances_172 (fun H locs hP hD hS => ?_)
        have hP : va_P (dC, dI) vwCl [(a_o, .inr (5, [.int o_thrown, .long o_trace, .ref a_o_text, .int o_typed, .int o_next_1, .int o_token, .int o_next_1, .int (0 : Int32), .int o_fault, .ref a_o_need, .ref a_o_made, .ref a_o_skillTold, .ref a_o_placeTold, .ref a_o_skips, .ref a_o_wheelTold, .int o_trades, .int o_people, .int o_draftTrades, .int o_draftPeople, .int o_isShut, .ref a_o_tunes, .ref a_o_s, .ref a_o_spare, .ref a_o_kept, .ref a_o_isKept, .ref a_o_makes, .ref a_o_works, .ref a_o_order, .int o_falling])), (a_o_text, .inl (cI, 400, .inl o_text))] H := hP
        have hD : va_D A [(a_o, .inr (5, [.int o_thrown, .long o_trace, .ref a_o_text, .int o_typed, .int o_next_1, .int o_token, .int o_next_1, .int (0 : Int32), .int o_fault, .ref a_o_need, .ref a_o_made, .ref a_o_skillTold, .ref a_o_placeTold, .ref a_o_skips, .ref a_o_wheelTold, .int o_trades, .int o_people, .int o_draftTrades, .int o_draftPeople, .int o_isShut, .ref a_o_tunes, .ref a_o_s, .ref a_o_spare, .ref a_o_kept, .ref a_o_isKept, .ref a_o_makes, .ref a_o_works, .ref a_o_order, .int o_falling])), (a_o_text, .inl (cI, 400, .inl o_text))] := hD
        obtain ⟨o_next_9, o_value_10, hc, hf⟩ := pb2 hf
        refine wX5_advances_175 hg0 a_o a_o_text a_o_need a_o_made a_o_skillTold a_o_placeTold a_o_skips a_o_wheelTold a_o_tunes a_o_s a_o_spare a_o_kept a_o_isKept a_o_makes a_o_works a_o_order o_thrown o_trace o_typed o_token o_next_1 o_fault o_trades o_people o_draftTrades o_draftPeople o_isShut o_falling o_text r_2 N N o_next_1 (0 : Int32) o_next_9 o_value_10 hc _ _ _ hP hD hS (lv_sub hl [1, 0] rfl) (fun H locs ls hP hD hS hl => ?_)
        refine lv_aload_n hx hb dX5_advances_245 rfl (lv_at hl 0 rfl) ?_
        refine lv_aload_n hx hb dX5_advances_246 rfl (lv_at hl 0 rfl) ?_
        refine va_get (D := (dC, dI)) (ci := 5) (v := .int o_value_10) (C := RX5) (T := TX5) (N := 29) hx hb hts uX5_advances_X5 hown hK hP 0 rfl rfl 7 (by decide) (hts _ mX5_advances_3) (fun _ h9 => h9) rfl dX5_advances_247 ?_
        refine lv_bipush (v := (99 : Int32)) hx hb dX5_advances_250 (by decide) ?_
        refine lv_icmp_gt (tgt := 274) hx hb dX5_advances_252 (by decide) (fun c_11 => ?_) (fun c_11 => ?_)
        · have hf := pit hf c_11
          refine lv_iconst (v := (4 : Int32)) hx hb dX5_advances_274 (by decide) ?_
          refine lv_goto (tgt := 279) hx hb dX5_advances_275 (by decide) ?_
          refine va_put (D := (dC, dI)) (ci := 5) (v := .int (4 : Int32)) (ty := .int) (C := RX5) (T := TX5) (N := 29) hx hb hts uX5_advances_X5 tyX5 tyX5_ok nmX5 hown hK hP hD hS 0 rfl rfl 5 (by decide) (hts _ mX5_advances_2) (fun _ h9 => h9) rfl (by decide +kernel) rfl rfl (Nat.le_of_ble_eq_true rfl) dX5_advances_279 (fun H locs hP hD hS => ?_)
          have hP : va_P (dC, dI) vwCl [(a_o, .inr (5, [.int o_thrown, .long o_trace, .ref a_o_text, .int o_typed, .int o_next_9, .int (4 : Int32), .int o_next_1, .int o_value_10, .int o_fault, .ref a_o_need, .ref a_o_made, .ref a_o_skillTold, .ref a_o_placeTold, .ref a_o_skips, .ref a_o_wheelTold, .int o_trades, .int o_people, .int o_draftTrades, .int o_draftPeople, .int o_isShut, .ref a_o_tunes, .ref a_o_s, .ref a_o_spare, .ref a_o_kept, .ref a_o_isKept, .ref a_o_makes, .ref a_o_works, .ref a_o_order, .int o_falling])), (a_o_text, .inl (cI, 400, .inl o_text))] H := hP
          have hD : va_D A [(a_o, .inr (5, [.int o_thrown, .long o_trace, .ref a_o_text, .int o_typed, .int o_next_9, .int (4 : Int32), .int o_next_1, .int o_value_10, .int o_fault, .ref a_o_need, .ref a_o_made, .ref a_o_skillTold, .ref a_o_placeTold, .ref a_o_skips, .ref a_o_wheelTold, .int o_trades, .int o_people, .int o_draftTrades, .int o_draftPeople, .int o_isShut, .ref a_o_tunes, .ref a_o_s, .ref a_o_spare, .ref a_o_kept, .ref a_o_isKept, .ref a_o_makes, .ref a_o_works, .ref a_o_order, .int o_falling])), (a_o_text, .inl (cI, 400, .inl o_text))] := hD
          refine lv_goto (tgt := 310) hx hb dX5_advances_282 (by decide) ?_
          have q0 := Option.some.inj hf
          obtain ⟨e0, q1⟩ := Prod.mk.inj q0
          obtain ⟨e1, q2⟩ := Prod.mk.inj q1
          obtain ⟨e2, q3⟩ := Prod.mk.inj q2
          subst e0
          subst e1
          subst e2
          subst q3
          exact gRv hx hb hr hlocks hP hS dX5_advances_310
        · have hf := pif hf c_11
          refine lv_iload_n hx hb dX5_advances_255 rfl (lv_at hl 1 rfl) ?_
          refine lv_bipush (v := (48 : Int32)) hx hb dX5_advances_256 (by decide) ?_
          refine lv_icmp_ne (tgt := 278) hx hb dX5_advances_258 (by decide) (fun c_12 => ?_) (fun c_12 => ?_)
          · have hf := pif hf c_12
            refine lv_iconst (v := (2 : Int32)) hx hb dX5_advances_278 (by decide) ?_
            refine va_put (D := (dC, dI)) (ci := 5) (v := .int (2 : Int32)) (ty := .int) (C := RX5) (T := TX5) (N := 29) hx hb hts uX5_advances_X5 tyX5 tyX5_ok nmX5 hown hK hP hD hS 0 rfl rfl 5 (by decide) (hts _ mX5_advances_2) (fun _ h9 => h9) rfl (by decide +kernel) rfl rfl (Nat.le_of_ble_eq_true rfl) dX5_advances_279 (fun H locs hP hD hS => ?_)
            have hP : va_P (dC, dI) vwCl [(a_o, .inr (5, [.int o_thrown, .long o_trace, .ref a_o_text, .int o_typed, .int o_next_9, .int (2 : Int32), .int o_next_1, .int o_value_10, .int o_fault, .ref a_o_need, .ref a_o_made, .ref a_o_skillTold, .ref a_o_placeTold, .ref a_o_skips, .ref a_o_wheelTold, .int o_trades, .int o_people, .int o_draftTrades, .int o_draftPeople, .int o_isShut, .ref a_o_tunes, .ref a_o_s, .ref a_o_spare, .ref a_o_kept, .ref a_o_isKept, .ref a_o_makes, .ref a_o_works, .ref a_o_order, .int o_falling])), (a_o_text, .inl (cI, 400, .inl o_text))] H := hP
            have hD : va_D A [(a_o, .inr (5, [.int o_thrown, .long o_trace, .ref a_o_text, .int o_typed, .int o_next_9, .int (2 : Int32), .int o_next_1, .int o_value_10, .int o_fault, .ref a_o_need, .ref a_o_made, .ref a_o_skillTold, .ref a_o_placeTold, .ref a_o_skips, .ref a_o_wheelTold, .int o_trades, .int o_people, .int o_draftTrades, .int o_draftPeople, .int o_isShut, .ref a_o_tunes, .ref a_o_s, .ref a_o_spare, .ref a_o_kept, .ref a_o_isKept, .ref a_o_makes, .ref a_o_works, .ref a_o_order, .int o_falling])), (a_o_text, .inl (cI, 400, .inl o_text))] := hD
            refine lv_goto (tgt := 310) hx hb dX5_advances_282 (by decide) ?_
            have q0 := Option.some.inj hf
            obtain ⟨e0, q1⟩ := Prod.mk.inj q0
            obtain ⟨e1, q2⟩ := Prod.mk.inj q1
            obtain ⟨e2, q3⟩ := Prod.mk.inj q2
            subst e0
            subst e1
            subst e2
            subst q3
            exact gRv hx hb hr hlocks hP hS dX5_advances_310
          · have hf := pit hf c_12
            refine lv_aload_n hx hb dX5_advances_261 rfl (lv_at hl 0 rfl) ?_
            refine va_get (D := (dC, dI)) (ci := 5) (v := .int o_next_9) (C := RX5) (T := TX5) (N := 29) hx hb hts uX5_advances_X5 hown hK hP 0 rfl rfl 4 (by decide) (hts _ mX5_advances_0) (fun _ h9 => h9) rfl dX5_advances_262 ?_
            refine lv_aload_n hx hb dX5_advances_265 rfl (lv_at hl 0 rfl) ?_
            refine va_get (D := (dC, dI)) (ci := 5) (v := .int o_next_1) (C := RX5) (T := TX5) (N := 29) hx hb hts uX5_advances_X5 hown hK hP 0 rfl rfl 6 (by decide) (hts _ mX5_advances_1) (fun _ h9 => h9) rfl dX5_advances_266 ?_
            refine lv_isub hx hb dX5_advances_269 ?_
            refine lv_iconst (v := (1 : Int32)) hx hb dX5_advances_270 (by decide) ?_
            refine lv_icmp_le (tgt := 278) hx hb dX5_advances_271 (by decide) (fun c_13 => ?_) (fun c_13 => ?_)
            · have hf := pit hf c_13
              refine lv_iconst (v := (2 : Int32)) hx hb dX5_advances_278 (by decide) ?_
              refine va_put (D := (dC, dI)) (ci := 5) (v := .int (2 : Int32)) (ty := .int) (C := RX5) (T := TX5) (N := 29) hx hb hts uX5_advances_X5 tyX5 tyX5_ok nmX5 hown hK hP hD hS 0 rfl rfl 5 (by decide) (hts _ mX5_advances_2) (fun _ h9 => h9) rfl (by decide +kernel) rfl rfl (Nat.le_of_ble_eq_true rfl) dX5_advances_279 (fun H locs hP hD hS => ?_)
              have hP : va_P (dC, dI) vwCl [(a_o, .inr (5, [.int o_thrown, .long o_trace, .ref a_o_text, .int o_typed, .int o_next_9, .int (2 : Int32), .int o_next_1, .int o_value_10, .int o_fault, .ref a_o_need, .ref a_o_made, .ref a_o_skillTold, .ref a_o_placeTold, .ref a_o_skips, .ref a_o_wheelTold, .int o_trades, .int o_people, .int o_draftTrades, .int o_draftPeople, .int o_isShut, .ref a_o_tunes, .ref a_o_s, .ref a_o_spare, .ref a_o_kept, .ref a_o_isKept, .ref a_o_makes, .ref a_o_works, .ref a_o_order, .int o_falling])), (a_o_text, .inl (cI, 400, .inl o_text))] H := hP
              have hD : va_D A [(a_o, .inr (5, [.int o_thrown, .long o_trace, .ref a_o_text, .int o_typed, .int o_next_9, .int (2 : Int32), .int o_next_1, .int o_value_10, .int o_fault, .ref a_o_need, .ref a_o_made, .ref a_o_skillTold, .ref a_o_placeTold, .ref a_o_skips, .ref a_o_wheelTold, .int o_trades, .int o_people, .int o_draftTrades, .int o_draftPeople, .int o_isShut, .ref a_o_tunes, .ref a_o_s, .ref a_o_spare, .ref a_o_kept, .ref a_o_isKept, .ref a_o_makes, .ref a_o_works, .ref a_o_order, .int o_falling])), (a_o_text, .inl (cI, 400, .inl o_text))] := hD
              refine lv_goto (tgt := 310) hx hb dX5_advances_282 (by decide) ?_
              have q0 := Option.some.inj hf
              obtain ⟨e0, q1⟩ := Prod.mk.inj q0
              obtain ⟨e1, q2⟩ := Prod.mk.inj q1
              obtain ⟨e2, q3⟩ := Prod.mk.inj q2
              subst e0
              subst e1
              subst e2
              subst q3
              exact gRv hx hb hr hlocks hP hS dX5_advances_310
            · have hf := pif hf c_13
              refine lv_iconst (v := (4 : Int32)) hx hb dX5_advances_274 (by decide) ?_
              refine lv_goto (tgt := 279) hx hb dX5_advances_275 (by decide) ?_
              refine va_put (D := (dC, dI)) (ci := 5) (v := .int (4 : Int32)) (ty := .int) (C := RX5) (T := TX5) (N := 29) hx hb hts uX5_advances_X5 tyX5 tyX5_ok nmX5 hown hK hP hD hS 0 rfl rfl 5 (by decide) (hts _ mX5_advances_2) (fun _ h9 => h9) rfl (by decide +kernel) rfl rfl (Nat.le_of_ble_eq_true rfl) dX5_advances_279 (fun H locs hP hD hS => ?_)
              have hP : va_P (dC, dI) vwCl [(a_o, .inr (5, [.int o_thrown, .long o_trace, .ref a_o_text, .int o_typed, .int o_next_9, .int (4 : Int32), .int o_next_1, .int o_value_10, .int o_fault, .ref a_o_need, .ref a_o_made, .ref a_o_skillTold, .ref a_o_placeTold, .ref a_o_skips, .ref a_o_wheelTold, .int o_trades, .int o_people, .int o_draftTrades, .int o_draftPeople, .int o_isShut, .ref a_o_tunes, .ref a_o_s, .ref a_o_spare, .ref a_o_kept, .ref a_o_isKept, .ref a_o_makes, .ref a_o_works, .ref a_o_order, .int o_falling])), (a_o_text, .inl (cI, 400, .inl o_text))] H := hP
              have hD : va_D A [(a_o, .inr (5, [.int o_thrown, .long o_trace, .ref a_o_text, .int o_typed, .int o_next_9, .int (4 : Int32), .int o_next_1, .int o_value_10, .int o_fault, .ref a_o_need, .ref a_o_made, .ref a_o_skillTold, .ref a_o_placeTold, .ref a_o_skips, .ref a_o_wheelTold, .int o_trades, .int o_people, .int o_draftTrades, .int o_draftPeople, .int o_isShut, .ref a_o_tunes, .ref a_o_s, .ref a_o_spare, .ref a_o_kept, .ref a_o_isKept, .ref a_o_makes, .ref a_o_works, .ref a_o_order, .int o_falling])), (a_o_text, .inl (cI, 400, .inl o_text))] := hD
              refine lv_goto (tgt := 310) hx hb dX5_advances_282 (by decide) ?_
              have q0 := Option.some.inj hf
              obtain ⟨e0, q1⟩ := Prod.mk.inj q0
              obtain ⟨e1, q2⟩ := Prod.mk.inj q1
              obtain ⟨e2, q3⟩ := Prod.mk.inj q2
              subst e0
              subst e1
              subst e2
              subst q3
              exact gRv hx hb hr hlocks hP hS dX5_advances_310
    · have hf := pif hf c_5
      refine lv_lconst (v := (0 : Int64)) hx hb dX5_advances_66 (by decide) ?_
      refine lv_lstore_n (lv' := [(2, .long (0 : Int64)), (1, .int r_2), (0, .ref a_o)]) hx hb dX5_advances_67 rfl hl (by decide) rfl (fun ls hl => ?_)
      obtain ⟨o_next_14, l2_15, hc, hf⟩ := pb2 hf
      refine wX5_advances_68 hg0 a_o a_o_text a_o_need a_o_made a_o_skillTold a_o_placeTold a_o_skips a_o_wheelTold a_o_tunes a_o_s a_o_spare a_o_kept a_o_isKept a_o_makes a_o_works a_o_order o_thrown o_trace o_typed o_token o_next_1 o_value o_fault o_trades o_people o_draftTrades o_draftPeople o_isShut o_falling o_text  N N o_next_1 (0 : Int64) o_next_14 l2_15 hc _ _ _ hP hD hS (lv_sub hl [2, 0] rfl) (fun H locs ls hP hD hS hl => ?_)
      refine lv_aload_n hx hb dX5_advances_130 rfl (lv_at hl 0 rfl) ?_
      refine lv_lload_n hx hb dX5_advances_131 rfl (lv_at hl 1 rfl) ?_
      obtain ⟨r_16, hc, hf⟩ := pb1 hf
      refine gCi (va_runS (As := [.long l2_15]) (rest := [.ref a_o]) hF (kX5_wordOf l dC dI Z cC cI cZ cW  _  l2_15 N r_16 hc) (cwS 1 hts gX5_advances_X5_wordOf rfl rfl rfl (by decide +kernel) ⟨Nat.le_of_ble_eq_true rfl, Nat.le_of_ble_eq_true rfl⟩) (gPS (wc := []) hK hN hA hS hP hD [] rfl rfl) rfl rfl hl.1 rfl (lv_room (Nat.le_of_ble_eq_true rfl)) dX5_advances_132 ⟨Nat.zero_le _, Nat.zero_le _⟩) hP hD hS hA [] rfl rfl rfl (fun H locs hP hD hS => ?_)
      have hP : va_P (dC, dI) vwCl [(a_o, .inr (5, [.int o_thrown, .long o_trace, .ref a_o_text, .int o_typed, .int o_next_14, .int o_token, .int o_next_1, .int o_value, .int o_fault, .ref a_o_need, .ref a_o_made, .ref a_o_skillTold, .ref a_o_placeTold, .ref a_o_skips, .ref a_o_wheelTold, .int o_trades, .int o_people, .int o_draftTrades, .int o_draftPeople, .int o_isShut, .ref a_o_tunes, .ref a_o_s, .ref a_o_spare, .ref a_o_kept, .ref a_o_isKept, .ref a_o_makes, .ref a_o_works, .ref a_o_order, .int o_falling])), (a_o_text, .inl (cI, 400, .inl o_text))] H := hP
      have hD : va_D A [(a_o, .inr (5, [.int o_thrown, .long o_trace, .ref a_o_text, .int o_typed, .int o_next_14, .int o_token, .int o_next_1, .int o_value, .int o_fault, .ref a_o_need, .ref a_o_made, .ref a_o_skillTold, .ref a_o_placeTold, .ref a_o_skips, .ref a_o_wheelTold, .int o_trades, .int o_people, .int o_draftTrades, .int o_draftPeople, .int o_isShut, .ref a_o_tunes, .ref a_o_s, .ref a_o_spare, .ref a_o_kept, .ref a_o_isKept, .ref a_o_makes, .ref a_o_works, .ref a_o_order, .int o_falling])), (a_o_text, .inl (cI, 400, .inl o_text))] := hD
      refine va_put (D := (dC, dI)) (ci := 5) (v := .int r_16) (ty := .int) (C := RX5) (T := TX5) (N := 29) hx hb hts uX5_advances_X5 tyX5 tyX5_ok nmX5 hown hK hP hD hS 0 rfl rfl 7 (by decide) (hts _ mX5_advances_3) (fun _ h9 => h9) rfl (by decide +kernel) rfl rfl (Nat.le_of_ble_eq_true rfl) dX5_advances_135 (fun H locs hP hD hS => ?_)
      have hP : va_P (dC, dI) vwCl [(a_o, .inr (5, [.int o_thrown, .long o_trace, .ref a_o_text, .int o_typed, .int o_next_14, .int o_token, .int o_next_1, .int r_16, .int o_fault, .ref a_o_need, .ref a_o_made, .ref a_o_skillTold, .ref a_o_placeTold, .ref a_o_skips, .ref a_o_wheelTold, .int o_trades, .int o_people, .int o_draftTrades, .int o_draftPeople, .int o_isShut, .ref a_o_tunes, .ref a_o_s, .ref a_o_spare, .ref a_o_kept, .ref a_o_isKept, .ref a_o_makes, .ref a_o_works, .ref a_o_order, .int o_falling])), (a_o_text, .inl (cI, 400, .inl o_text))] H := hP
      have hD : va_D A [(a_o, .inr (5, [.int o_thrown, .long o_trace, .ref a_o_text, .int o_typed, .int o_next_14, .int o_token, .int o_next_1, .int r_16, .int o_fault, .ref a_o_need, .ref a_o_made, .ref a_o_skillTold, .ref a_o_placeTold, .ref a_o_skips, .ref a_o_wheelTold, .int o_trades, .int o_people, .int o_draftTrades, .int o_draftPeople, .int o_isShut, .ref a_o_tunes, .ref a_o_s, .ref a_o_spare, .ref a_o_kept, .ref a_o_isKept, .ref a_o_makes, .ref a_o_works, .ref a_o_order, .int o_falling])), (a_o_text, .inl (cI, 400, .inl o_text))] := hD
      refine lv_aload_n hx hb dX5_advances_138 rfl (lv_at hl 0 rfl) ?_
      refine lv_aload_n hx hb dX5_advances_139 rfl (lv_at hl 0 rfl) ?_
      refine va_get (D := (dC, dI)) (ci := 5) (v := .int r_16) (C := RX5) (T := TX5) (N := 29) hx hb hts uX5_advances_X5 hown hK hP 0 rfl rfl 7 (by decide) (hts _ mX5_advances_3) (fun _ h9 => h9) rfl dX5_advances_140 ?_
      refine lv_bipush (v := (-9 : Int32)) hx hb dX5_advances_143 (by decide) ?_
      refine lv_icmp_ne (tgt := 152) hx hb dX5_advances_145 (by decide) (fun c_17 => ?_) (fun c_17 => ?_)
      · have hf := pif hf c_17
        refine lv_iconst (v := (1 : Int32)) hx hb dX5_advances_152 (by decide) ?_
        refine va_put (D := (dC, dI)) (ci := 5) (v := .int (1 : Int32)) (ty := .int) (C := RX5) (T := TX5) (N := 29) hx hb hts uX5_advances_X5 tyX5 tyX5_ok nmX5 hown hK hP hD hS 0 rfl rfl 5 (by decide) (hts _ mX5_advances_2) (fun _ h9 => h9) rfl (by decide +kernel) rfl rfl (Nat.le_of_ble_eq_true rfl) dX5_advances_153 (fun H locs hP hD hS => ?_)
        have hP : va_P (dC, dI) vwCl [(a_o, .inr (5, [.int o_thrown, .long o_trace, .ref a_o_text, .int o_typed, .int o_next_14, .int (1 : Int32), .int o_next_1, .int r_16, .int o_fault, .ref a_o_need, .ref a_o_made, .ref a_o_skillTold, .ref a_o_placeTold, .ref a_o_skips, .ref a_o_wheelTold, .int o_trades, .int o_people, .int o_draftTrades, .int o_draftPeople, .int o_isShut, .ref a_o_tunes, .ref a_o_s, .ref a_o_spare, .ref a_o_kept, .ref a_o_isKept, .ref a_o_makes, .ref a_o_works, .ref a_o_order, .int o_falling])), (a_o_text, .inl (cI, 400, .inl o_text))] H := hP
        have hD : va_D A [(a_o, .inr (5, [.int o_thrown, .long o_trace, .ref a_o_text, .int o_typed, .int o_next_14, .int (1 : Int32), .int o_next_1, .int r_16, .int o_fault, .ref a_o_need, .ref a_o_made, .ref a_o_skillTold, .ref a_o_placeTold, .ref a_o_skips, .ref a_o_wheelTold, .int o_trades, .int o_people, .int o_draftTrades, .int o_draftPeople, .int o_isShut, .ref a_o_tunes, .ref a_o_s, .ref a_o_spare, .ref a_o_kept, .ref a_o_isKept, .ref a_o_makes, .ref a_o_works, .ref a_o_order, .int o_falling])), (a_o_text, .inl (cI, 400, .inl o_text))] := hD
        refine lv_goto (tgt := 310) hx hb dX5_advances_156 (by decide) ?_
        have q0 := Option.some.inj hf
        obtain ⟨e0, q1⟩ := Prod.mk.inj q0
        obtain ⟨e1, q2⟩ := Prod.mk.inj q1
        obtain ⟨e2, q3⟩ := Prod.mk.inj q2
        subst e0
        subst e1
        subst e2
        subst q3
        exact gRv hx hb hr hlocks hP hS dX5_advances_310
      · have hf := pit hf c_17
        refine lv_iconst (v := (4 : Int32)) hx hb dX5_advances_148 (by decide) ?_
        refine lv_goto (tgt := 153) hx hb dX5_advances_149 (by decide) ?_
        refine va_put (D := (dC, dI)) (ci := 5) (v := .int (4 : Int32)) (ty := .int) (C := RX5) (T := TX5) (N := 29) hx hb hts uX5_advances_X5 tyX5 tyX5_ok nmX5 hown hK hP hD hS 0 rfl rfl 5 (by decide) (hts _ mX5_advances_2) (fun _ h9 => h9) rfl (by decide +kernel) rfl rfl (Nat.le_of_ble_eq_true rfl) dX5_advances_153 (fun H locs hP hD hS => ?_)
        have hP : va_P (dC, dI) vwCl [(a_o, .inr (5, [.int o_thrown, .long o_trace, .ref a_o_text, .int o_typed, .int o_next_14, .int (4 : Int32), .int o_next_1, .int r_16, .int o_fault, .ref a_o_need, .ref a_o_made, .ref a_o_skillTold, .ref a_o_placeTold, .ref a_o_skips, .ref a_o_wheelTold, .int o_trades, .int o_people, .int o_draftTrades, .int o_draftPeople, .int o_isShut, .ref a_o_tunes, .ref a_o_s, .ref a_o_spare, .ref a_o_kept, .ref a_o_isKept, .ref a_o_makes, .ref a_o_works, .ref a_o_order, .int o_falling])), (a_o_text, .inl (cI, 400, .inl o_text))] H := hP
        have hD : va_D A [(a_o, .inr (5, [.int o_thrown, .long o_trace, .ref a_o_text, .int o_typed, .int o_next_14, .int (4 : Int32), .int o_next_1, .int r_16, .int o_fault, .ref a_o_need, .ref a_o_made, .ref a_o_skillTold, .ref a_o_placeTold, .ref a_o_skips, .ref a_o_wheelTold, .int o_trades, .int o_people, .int o_draftTrades, .int o_draftPeople, .int o_isShut, .ref a_o_tunes, .ref a_o_s, .ref a_o_spare, .ref a_o_kept, .ref a_o_isKept, .ref a_o_makes, .ref a_o_works, .ref a_o_order, .int o_falling])), (a_o_text, .inl (cI, 400, .inl o_text))] := hD
        refine lv_goto (tgt := 310) hx hb dX5_advances_156 (by decide) ?_
        have q0 := Option.some.inj hf
        obtain ⟨e0, q1⟩ := Prod.mk.inj q0
        obtain ⟨e1, q2⟩ := Prod.mk.inj q1
        obtain ⟨e2, q3⟩ := Prod.mk.inj q2
        subst e0
        subst e1
        subst e2
        subst q3
        exact gRv hx hb hr hlocks hP hS dX5_advances_310
  · have hf := pif hf c_3
    refine lv_aload_n hx hb dX5_advances_47 rfl (lv_at hl 1 rfl) ?_
    refine lv_iconst (v := (0 : Int32)) hx hb dX5_advances_48 (by decide) ?_
    refine va_put (D := (dC, dI)) (ci := 5) (v := .int (0 : Int32)) (ty := .int) (C := RX5) (T := TX5) (N := 29) hx hb hts uX5_advances_X5 tyX5 tyX5_ok nmX5 hown hK hP hD hS 0 rfl rfl 5 (by decide) (hts _ mX5_advances_2) (fun _ h9 => h9) rfl (by decide +kernel) rfl rfl (Nat.le_of_ble_eq_true rfl) dX5_advances_49 (fun H locs hP hD hS => ?_)
    have hP : va_P (dC, dI) vwCl [(a_o, .inr (5, [.int o_thrown, .long o_trace, .ref a_o_text, .int o_typed, .int o_next_1, .int (0 : Int32), .int o_next_1, .int o_value, .int o_fault, .ref a_o_need, .ref a_o_made, .ref a_o_skillTold, .ref a_o_placeTold, .ref a_o_skips, .ref a_o_wheelTold, .int o_trades, .int o_people, .int o_draftTrades, .int o_draftPeople, .int o_isShut, .ref a_o_tunes, .ref a_o_s, .ref a_o_spare, .ref a_o_kept, .ref a_o_isKept, .ref a_o_makes, .ref a_o_works, .ref a_o_order, .int o_falling])), (a_o_text, .inl (cI, 400, .inl o_text))] H := hP
    have hD : va_D A [(a_o, .inr (5, [.int o_thrown, .long o_trace, .ref a_o_text, .int o_typed, .int o_next_1, .int (0 : Int32), .int o_next_1, .int o_value, .int o_fault, .ref a_o_need, .ref a_o_made, .ref a_o_skillTold, .ref a_o_placeTold, .ref a_o_skips, .ref a_o_wheelTold, .int o_trades, .int o_people, .int o_draftTrades, .int o_draftPeople, .int o_isShut, .ref a_o_tunes, .ref a_o_s, .ref a_o_spare, .ref a_o_kept, .ref a_o_isKept, .ref a_o_makes, .ref a_o_works, .ref a_o_order, .int o_falling])), (a_o_text, .inl (cI, 400, .inl o_text))] := hD
    refine lv_goto (tgt := 310) hx hb dX5_advances_52 (by decide) ?_
    have q0 := Option.some.inj hf
    obtain ⟨e0, q1⟩ := Prod.mk.inj q0
    obtain ⟨e1, q2⟩ := Prod.mk.inj q1
    obtain ⟨e2, q3⟩ := Prod.mk.inj q2
    subst e0
    subst e1
    subst e2
    subst q3
    exact gRv hx hb hr hlocks hP hS dX5_advances_310
abbrev rmX5_isWell : Room := { frames := 0, cells := 0, slots := 0, locals := 0 }
set_option maxRecDepth 20000 in
theorem uX5_isWell_X5 : ∀ w ∈ wsX50, w ∈ wsX5_isWell := by decide +kernel
set_option maxRecDepth 20000 in
theorem mX5_isWell_0 : (Cond.fieldLink RX5 102 "TradeWheelModel" "fault" "I" : Cond) ∈ wsX5_isWell := by decide +kernel
set_option maxHeartbeats 4000000 in
set_option maxRecDepth 100000 in
theorem kX5_isWell (l : Launch) (dC : Nat → ClassId) (dI : Nat → Nat → Nat) (Z : gZ) (cC cI cZ cW : ClassId) (a_o a_o_text a_o_need a_o_made a_o_skillTold a_o_placeTold a_o_skips a_o_wheelTold a_o_tunes a_o_s a_o_spare a_o_kept a_o_isKept a_o_makes a_o_works a_o_order : Nat) (sz : Nat) (o_thrown : Int32) (o_trace : Int64) (o_typed : Int32) (o_next : Int32) (o_token : Int32) (o_place : Int32) (o_value : Int32) (o_fault : Int32) (o_trades : Int32) (o_people : Int32) (o_draftTrades : Int32) (o_draftPeople : Int32) (o_isShut : Int32) (o_falling : Int32)  (N : Nat) (r' : Int32) (hf : fX5_isWell N o_fault   = some r') : Met l yX5_isWell wsX5_isWell rmX5_isWell (va_Pc [.ref a_o] (gB (dC, dI) Z [(cC, .char), (cI, .int), (cZ, .boolean), (cW, .object RX3)] [(a_o, .inr (5, [.int o_thrown, .long o_trace, .ref a_o_text, .int o_typed, .int o_next, .int o_token, .int o_place, .int o_value, .int o_fault, .ref a_o_need, .ref a_o_made, .ref a_o_skillTold, .ref a_o_placeTold, .ref a_o_skips, .ref a_o_wheelTold, .int o_trades, .int o_people, .int o_draftTrades, .int o_draftPeople, .int o_isShut, .ref a_o_tunes, .ref a_o_s, .ref a_o_spare, .ref a_o_kept, .ref a_o_isKept, .ref a_o_makes, .ref a_o_works, .ref a_o_order, .int o_falling]))] sz)) (va_Qi (fun (r : Int32) (_ : Unit) => r = r') (gE (dC, dI) [(a_o, .inr (5, [.int o_thrown, .long o_trace, .ref a_o_text, .int o_typed, .int o_next, .int o_token, .int o_place, .int o_value, .int o_fault, .ref a_o_need, .ref a_o_made, .ref a_o_skillTold, .ref a_o_placeTold, .ref a_o_skips, .ref a_o_wheelTold, .int o_trades, .int o_people, .int o_draftTrades, .int o_draftPeople, .int o_isShut, .ref a_o_tunes, .ref a_o_s, .ref a_o_spare, .ref a_o_kept, .ref a_o_isKept, .ref a_o_makes, .ref a_o_works, .ref a_o_order, .int o_falling]))]) (va_A [(a_o, .inr (5, [.int o_thrown, .long o_trace, .ref a_o_text, .int o_typed, .int o_next, .int o_token, .int o_place, .int o_value, .int o_fault, .ref a_o_need, .ref a_o_made, .ref a_o_skillTold, .ref a_o_placeTold, .ref a_o_skips, .ref a_o_wheelTold, .int o_trades, .int o_people, .int o_draftTrades, .int o_draftPeople, .int o_isShut, .ref a_o_tunes, .ref a_o_s, .ref a_o_spare, .ref a_o_kept, .ref a_o_isKept, .ref a_o_makes, .ref a_o_works, .ref a_o_order, .int o_falling]))] sz)) 0 0 (va_A [(a_o, .inr (5, [.int o_thrown, .long o_trace, .ref a_o_text, .int o_typed, .int o_next, .int o_token, .int o_place, .int o_value, .int o_fault, .ref a_o_need, .ref a_o_made, .ref a_o_skillTold, .ref a_o_placeTold, .ref a_o_skips, .ref a_o_wheelTold, .int o_trades, .int o_people, .int o_draftTrades, .int o_draftPeople, .int o_isShut, .ref a_o_tunes, .ref a_o_s, .ref a_o_spare, .ref a_o_kept, .ref a_o_isKept, .ref a_o_makes, .ref a_o_works, .ref a_o_order, .int o_falling]))] sz) := by
  refine gMet (cc := cX5_isWell) (maxL := 1) (ret := (some .boolean)) (Qc := fun A => va_Qi (fun (r : Int32) (_ : Unit) => r = r') (gE (dC, dI) [(a_o, .inr (5, [.int o_thrown, .long o_trace, .ref a_o_text, .int o_typed, .int o_next, .int o_token, .int o_place, .int o_value, .int o_fault, .ref a_o_need, .ref a_o_made, .ref a_o_skillTold, .ref a_o_placeTold, .ref a_o_skips, .ref a_o_wheelTold, .int o_trades, .int o_people, .int o_draftTrades, .int o_draftPeople, .int o_isShut, .ref a_o_tunes, .ref a_o_s, .ref a_o_spare, .ref a_o_kept, .ref a_o_isKept, .ref a_o_makes, .ref a_o_works, .ref a_o_order, .int o_falling]))]) A) (by decide) rfl (Nat.le_of_ble_eq_true rfl) ?_
  intro p e s m below meth c A ls hg0 _ hsz hP hD hS hl
  have hg0 : gX p s m _ meth c cX5_isWell 1 (some .boolean) wsX5_isWell RX5 (dC, dI) Z [(cC, .char), (cI, .int), (cZ, .boolean), (cW, .object RX3)] A := hg0
  obtain ⟨hx, hb, hr, hml, hown, hts, hlocks, hA, hK, hN⟩ := id hg0
  subst hsz
  have hF : CallFix p m c cX5_isWell 1 s _ wsX5_isWell RX5 := ⟨hx, hb, hml, hown, hts⟩
  have hl : lv_has ls 1 [(0, .ref a_o)] := hl
  unfold fX5_isWell at hf
  refine lv_aload_n hx hb dX5_isWell_0 rfl (lv_at hl 0 rfl) ?_
  refine va_get (D := (dC, dI)) (ci := 5) (v := .int o_fault) (C := RX5) (T := TX5) (N := 29) hx hb hts uX5_isWell_X5 hown hK hP 0 rfl rfl 8 (by decide) (hts _ mX5_isWell_0) (fun _ h9 => h9) rfl dX5_isWell_1 ?_
  refine lv_if_ge (tgt := 11) hx hb dX5_isWell_4 (by decide) (fun c_1 => ?_) (fun c_1 => ?_)
  · have hf := pit hf c_1
    refine lv_iconst (v := (0 : Int32)) hx hb dX5_isWell_11 (by decide) ?_
    have q0 := Option.some.inj hf
    subst q0
    exact gRz hx hb hr rfl hlocks hP hS dX5_isWell_12
  · have hf := pif hf c_1
    refine lv_iconst (v := (1 : Int32)) hx hb dX5_isWell_7 (by decide) ?_
    refine lv_goto (tgt := 12) hx hb dX5_isWell_8 (by decide) ?_
    have q0 := Option.some.inj hf
    subst q0
    exact gRz hx hb hr rfl hlocks hP hS dX5_isWell_12
abbrev rmX5_takes : Room := { frames := 4, cells := 0, slots := 0, locals := 92 }
set_option maxRecDepth 20000 in
theorem uX5_takes_X5 : ∀ w ∈ wsX50, w ∈ wsX5_takes := by decide +kernel
set_option maxRecDepth 20000 in
theorem mX5_takes_0 : (Cond.fieldLink RX5 99 "TradeWheelModel" "value" "I" : Cond) ∈ wsX5_takes := by decide +kernel
set_option maxRecDepth 20000 in
theorem mX5_takes_1 : (Cond.fieldLink RX5 89 "TradeWheelModel" "place" "I" : Cond) ∈ wsX5_takes := by decide +kernel
set_option maxRecDepth 20000 in
theorem mX5_takes_2 : (Cond.fieldLink RX5 102 "TradeWheelModel" "fault" "I" : Cond) ∈ wsX5_takes := by decide +kernel
set_option maxHeartbeats 4000000 in
set_option maxRecDepth 100000 in
theorem kX5_takes (l : Launch) (dC : Nat → ClassId) (dI : Nat → Nat → Nat) (Z : gZ) (cC cI cZ cW : ClassId) (a_o a_o_text a_o_need a_o_made a_o_skillTold a_o_placeTold a_o_skips a_o_wheelTold a_o_tunes a_o_s a_o_spare a_o_kept a_o_isKept a_o_makes a_o_works a_o_order : Nat) (sz : Nat) (o_thrown : Int32) (o_trace : Int64) (o_typed : Int32) (o_next : Int32) (o_token : Int32) (o_place : Int32) (o_value : Int32) (o_fault : Int32) (o_trades : Int32) (o_people : Int32) (o_draftTrades : Int32) (o_draftPeople : Int32) (o_isShut : Int32) (o_falling : Int32) (o_text : Nat → Int32) (i1 : Int32) (N : Nat) (r' : Int32) (o_next' : Int32) (o_token' : Int32) (o_place' : Int32) (o_value' : Int32) (o_fault' : Int32) (hf : fX5_takes N o_typed o_next o_token o_place o_value o_fault o_text  i1 = some (r', o_next', o_token', o_place', o_value', o_fault')) : Met l yX5_takes wsX5_takes rmX5_takes (va_Pc [.ref a_o, .int i1] (gB (dC, dI) Z [(cC, .char), (cI, .int), (cZ, .boolean), (cW, .object RX3)] [(a_o, .inr (5, [.int o_thrown, .long o_trace, .ref a_o_text, .int o_typed, .int o_next, .int o_token, .int o_place, .int o_value, .int o_fault, .ref a_o_need, .ref a_o_made, .ref a_o_skillTold, .ref a_o_placeTold, .ref a_o_skips, .ref a_o_wheelTold, .int o_trades, .int o_people, .int o_draftTrades, .int o_draftPeople, .int o_isShut, .ref a_o_tunes, .ref a_o_s, .ref a_o_spare, .ref a_o_kept, .ref a_o_isKept, .ref a_o_makes, .ref a_o_works, .ref a_o_order, .int o_falling])), (a_o_text, .inl (cI, 400, .inl o_text))] sz)) (va_Qi (fun (r : Int32) (_ : Unit) => r = r') (gE (dC, dI) [(a_o, .inr (5, [.int o_thrown, .long o_trace, .ref a_o_text, .int o_typed, .int o_next', .int o_token', .int o_place', .int o_value', .int o_fault', .ref a_o_need, .ref a_o_made, .ref a_o_skillTold, .ref a_o_placeTold, .ref a_o_skips, .ref a_o_wheelTold, .int o_trades, .int o_people, .int o_draftTrades, .int o_draftPeople, .int o_isShut, .ref a_o_tunes, .ref a_o_s, .ref a_o_spare, .ref a_o_kept, .ref a_o_isKept, .ref a_o_makes, .ref a_o_works, .ref a_o_order, .int o_falling])), (a_o_text, .inl (cI, 400, .inl o_text))]) (va_A [(a_o, .inr (5, [.int o_thrown, .long o_trace, .ref a_o_text, .int o_typed, .int o_next, .int o_token, .int o_place, .int o_value, .int o_fault, .ref a_o_need, .ref a_o_made, .ref a_o_skillTold, .ref a_o_placeTold, .ref a_o_skips, .ref a_o_wheelTold, .int o_trades, .int o_people, .int o_draftTrades, .int o_draftPeople, .int o_isShut, .ref a_o_tunes, .ref a_o_s, .ref a_o_spare, .ref a_o_kept, .ref a_o_isKept, .ref a_o_makes, .ref a_o_works, .ref a_o_order, .int o_falling])), (a_o_text, .inl (cI, 400, .inl o_text))] sz)) 0 0 (va_A [(a_o, .inr (5, [.int o_thrown, .long o_trace, .ref a_o_text, .int o_typed, .int o_next, .int o_token, .int o_place, .int o_value, .int o_fault, .ref a_o_need, .ref a_o_made, .ref a_o_skillTold, .ref a_o_placeTold, .ref a_o_skips, .ref a_o_wheelTold, .int o_trades, .int o_people, .int o_draftTrades, .int o_draftPeople, .int o_isShut, .ref a_o_tunes, .ref a_o_s, .ref a_o_spare, .ref a_o_kept, .ref a_o_isKept, .ref a_o_makes, .ref a_o_works, .ref a_o_order, .int o_falling])), (a_o_text, .inl (cI, 400, .inl o_text))] sz) := by
  refine gMet (cc := cX5_takes) (maxL := 3) (ret := (some .int)) (Qc := fun A => va_Qi (fun (r : Int32) (_ : Unit) => r = r') (gE (dC, dI) [(a_o, .inr (5, [.int o_thrown, .long o_trace, .ref a_o_text, .int o_typed, .int o_next', .int o_token', .int o_place', .int o_value', .int o_fault', .ref a_o_need, .ref a_o_made, .ref a_o_skillTold, .ref a_o_placeTold, .ref a_o_skips, .ref a_o_wheelTold, .int o_trades, .int o_people, .int o_draftTrades, .int o_draftPeople, .int o_isShut, .ref a_o_tunes, .ref a_o_s, .ref a_o_spare, .ref a_o_kept, .ref a_o_isKept, .ref a_o_makes, .ref a_o_works, .ref a_o_order, .int o_falling])), (a_o_text, .inl (cI, 400, .inl o_text))]) A) (by decide) rfl (Nat.le_of_ble_eq_true rfl) ?_
  intro p e s m below meth c A ls hg0 _ hsz hP hD hS hl
  have hg0 : gX p s m _ meth c cX5_takes 3 (some .int) wsX5_takes RX5 (dC, dI) Z [(cC, .char), (cI, .int), (cZ, .boolean), (cW, .object RX3)] A := hg0
  obtain ⟨hx, hb, hr, hml, hown, hts, hlocks, hA, hK, hN⟩ := id hg0
  subst hsz
  have hF : CallFix p m c cX5_takes 3 s _ wsX5_takes RX5 := ⟨hx, hb, hml, hown, hts⟩
  have hl : lv_has ls 3 [(0, .ref a_o), (1, .int i1)] := hl
  unfold fX5_takes at hf
  refine lv_aload_n hx hb dX5_takes_0 rfl (lv_at hl 0 rfl) ?_
  obtain ⟨r_1, hc, hf⟩ := pb1 hf
  refine gCi (va_runV (As := []) (rest := []) hF (kX5_isWell l dC dI Z cC cI cZ cW a_o a_o_text a_o_need a_o_made a_o_skillTold a_o_placeTold a_o_skips a_o_wheelTold a_o_tunes a_o_s a_o_spare a_o_kept a_o_isKept a_o_makes a_o_works a_o_order _ o_thrown o_trace o_typed o_next o_token o_place o_value o_fault o_trades o_people o_draftTrades o_draftPeople o_isShut o_falling  N r_1 hc) (cwV 0 hts gX5_takes_X5_isWell rfl rfl rfl (by decide +kernel) ⟨Nat.le_of_ble_eq_true rfl, Nat.le_of_ble_eq_true rfl⟩) (gPV (wc := [(a_o, .inr (5, [.int o_thrown, .long o_trace, .ref a_o_text, .int o_typed, .int o_next, .int o_token, .int o_place, .int o_value, .int o_fault, .ref a_o_need, .ref a_o_made, .ref a_o_skillTold, .ref a_o_placeTold, .ref a_o_skips, .ref a_o_wheelTold, .int o_trades, .int o_people, .int o_draftTrades, .int o_draftPeople, .int o_isShut, .ref a_o_tunes, .ref a_o_s, .ref a_o_spare, .ref a_o_kept, .ref a_o_isKept, .ref a_o_makes, .ref a_o_works, .ref a_o_order, .int o_falling]))]) hK hN hA hS hP hD [0] rfl rfl (q0 := 0) (ci := 5) rfl rfl rfl) rfl rfl hl.1 rfl (lv_room (Nat.le_of_ble_eq_true rfl)) dX5_takes_1 ⟨Nat.zero_le _, Nat.zero_le _⟩) hP hD hS hA [0] rfl rfl rfl (fun H locs hP hD hS => ?_)
  have hP : va_P (dC, dI) vwCl [(a_o, .inr (5, [.int o_thrown, .long o_trace, .ref a_o_text, .int o_typed, .int o_next, .int o_token, .int o_place, .int o_value, .int o_fault, .ref a_o_need, .ref a_o_made, .ref a_o_skillTold, .ref a_o_placeTold, .ref a_o_skips, .ref a_o_wheelTold, .int o_trades, .int o_people, .int o_draftTrades, .int o_draftPeople, .int o_isShut, .ref a_o_tunes, .ref a_o_s, .ref a_o_spare, .ref a_o_kept, .ref a_o_isKept, .ref a_o_makes, .ref a_o_works, .ref a_o_order, .int o_falling])), (a_o_text, .inl (cI, 400, .inl o_text))] H := hP
  have hD : va_D A [(a_o, .inr (5, [.int o_thrown, .long o_trace, .ref a_o_text, .int o_typed, .int o_next, .int o_token, .int o_place, .int o_value, .int o_fault, .ref a_o_need, .ref a_o_made, .ref a_o_skillTold, .ref a_o_placeTold, .ref a_o_skips, .ref a_o_wheelTold, .int o_trades, .int o_people, .int o_draftTrades, .int o_draftPeople, .int o_isShut, .ref a_o_tunes, .ref a_o_s, .ref a_o_spare, .ref a_o_kept, .ref a_o_isKept, .ref a_o_makes, .ref a_o_works, .ref a_o_order, .int o_falling])), (a_o_text, .inl (cI, 400, .inl o_text))] := hD
  refine lv_if_ne (tgt := 9) hx hb dX5_takes_4 (by decide) (fun c_2 => ?_) (fun c_2 => ?_)
  · have hf := pif hf c_2
    refine lv_iload_n hx hb dX5_takes_9 rfl (lv_at hl 1 rfl) ?_
    refine lv_if_ne (tgt := 23) hx hb dX5_takes_10 (by decide) (fun c_3 => ?_) (fun c_3 => ?_)
    · have hf := pif hf c_3
      refine lv_aload_n hx hb dX5_takes_23 rfl (lv_at hl 0 rfl) ?_
      refine va_get (D := (dC, dI)) (ci := 5) (v := .int o_value) (C := RX5) (T := TX5) (N := 29) hx hb hts uX5_takes_X5 hown hK hP 0 rfl rfl 7 (by decide) (hts _ mX5_takes_0) (fun _ h9 => h9) rfl dX5_takes_24 ?_
      refine lv_istore_n (lv' := [(2, .int o_value), (0, .ref a_o), (1, .int i1)]) hx hb dX5_takes_27 rfl hl (by decide) rfl (fun ls hl => ?_)
      refine lv_aload_n hx hb dX5_takes_28 rfl (lv_at hl 1 rfl) ?_
      obtain ⟨o_next_4, o_token_5, o_place_6, o_value_7, hc, hf⟩ := pb4 hf
      refine gCv (va_runV (As := []) (rest := []) hF (kX5_advances l dC dI Z cC cI cZ cW a_o a_o_text a_o_need a_o_made a_o_skillTold a_o_placeTold a_o_skips a_o_wheelTold a_o_tunes a_o_s a_o_spare a_o_kept a_o_isKept a_o_makes a_o_works a_o_order _ o_thrown o_trace o_typed o_next o_token o_place o_value o_fault o_trades o_people o_draftTrades o_draftPeople o_isShut o_falling o_text  N o_next_4 o_token_5 o_place_6 o_value_7 hc) (cwV 0 hts gX5_takes_X5_advances rfl rfl rfl (by decide +kernel) ⟨Nat.le_of_ble_eq_true rfl, Nat.le_of_ble_eq_true rfl⟩) (gPV (wc := [(a_o, .inr (5, [.int o_thrown, .long o_trace, .ref a_o_text, .int o_typed, .int o_next, .int o_token, .int o_place, .int o_value, .int o_fault, .ref a_o_need, .ref a_o_made, .ref a_o_skillTold, .ref a_o_placeTold, .ref a_o_skips, .ref a_o_wheelTold, .int o_trades, .int o_people, .int o_draftTrades, .int o_draftPeople, .int o_isShut, .ref a_o_tunes, .ref a_o_s, .ref a_o_spare, .ref a_o_kept, .ref a_o_isKept, .ref a_o_makes, .ref a_o_works, .ref a_o_order, .int o_falling])), (a_o_text, .inl (cI, 400, .inl o_text))]) hK hN hA hS hP hD [0, 1] rfl rfl (q0 := 0) (ci := 5) rfl rfl rfl) rfl rfl hl.1 rfl (lv_room (Nat.le_of_ble_eq_true rfl)) dX5_takes_29 ⟨Nat.zero_le _, Nat.zero_le _⟩) hP hD hS hA [0, 1] rfl rfl rfl (fun H locs hP hD hS => ?_)
      have hP : va_P (dC, dI) vwCl [(a_o, .inr (5, [.int o_thrown, .long o_trace, .ref a_o_text, .int o_typed, .int o_next_4, .int o_token_5, .int o_place_6, .int o_value_7, .int o_fault, .ref a_o_need, .ref a_o_made, .ref a_o_skillTold, .ref a_o_placeTold, .ref a_o_skips, .ref a_o_wheelTold, .int o_trades, .int o_people, .int o_draftTrades, .int o_draftPeople, .int o_isShut, .ref a_o_tunes, .ref a_o_s, .ref a_o_spare, .ref a_o_kept, .ref a_o_isKept, .ref a_o_makes, .ref a_o_works, .ref a_o_order, .int o_falling])), (a_o_text, .inl (cI, 400, .inl o_text))] H := hP
      have hD : va_D A [(a_o, .inr (5, [.int o_thrown, .long o_trace, .ref a_o_text, .int o_typed, .int o_next_4, .int o_token_5, .int o_place_6, .int o_value_7, .int o_fault, .ref a_o_need, .ref a_o_made, .ref a_o_skillTold, .ref a_o_placeTold, .ref a_o_skips, .ref a_o_wheelTold, .int o_trades, .int o_people, .int o_draftTrades, .int o_draftPeople, .int o_isShut, .ref a_o_tunes, .ref a_o_s, .ref a_o_spare, .ref a_o_kept, .ref a_o_isKept, .ref a_o_makes, .ref a_o_works, .ref a_o_order, .int o_falling])), (a_o_text, .inl (cI, 400, .inl o_text))] := hD
      refine lv_iload_n hx hb dX5_takes_32 rfl (lv_at hl 0 rfl) ?_
      have q0 := Option.some.inj hf
      obtain ⟨e0, q1⟩ := Prod.mk.inj q0
      obtain ⟨e1, q2⟩ := Prod.mk.inj q1
      obtain ⟨e2, q3⟩ := Prod.mk.inj q2
      obtain ⟨e3, q4⟩ := Prod.mk.inj q3
      obtain ⟨e4, q5⟩ := Prod.mk.inj q4
      subst e0
      subst e1
      subst e2
      subst e3
      subst e4
      subst q5
      exact gRi hx hb hr hlocks hP hS dX5_takes_33
    · have hf := pit hf c_3
      refine lv_aload_n hx hb dX5_takes_13 rfl (lv_at hl 0 rfl) ?_
      refine lv_aload_n hx hb dX5_takes_14 rfl (lv_at hl 0 rfl) ?_
      refine va_get (D := (dC, dI)) (ci := 5) (v := .int o_place) (C := RX5) (T := TX5) (N := 29) hx hb hts uX5_takes_X5 hown hK hP 0 rfl rfl 6 (by decide) (hts _ mX5_takes_1) (fun _ h9 => h9) rfl dX5_takes_15 ?_
      refine va_put (D := (dC, dI)) (ci := 5) (v := .int o_place) (ty := .int) (C := RX5) (T := TX5) (N := 29) hx hb hts uX5_takes_X5 tyX5 tyX5_ok nmX5 hown hK hP hD hS 0 rfl rfl 8 (by decide) (hts _ mX5_takes_2) (fun _ h9 => h9) rfl (by decide +kernel) rfl rfl (Nat.le_of_ble_eq_true rfl) dX5_takes_18 (fun H locs hP hD hS => ?_)
      have hP : va_P (dC, dI) vwCl [(a_o, .inr (5, [.int o_thrown, .long o_trace, .ref a_o_text, .int o_typed, .int o_next, .int o_token, .int o_place, .int o_value, .int o_place, .ref a_o_need, .ref a_o_made, .ref a_o_skillTold, .ref a_o_placeTold, .ref a_o_skips, .ref a_o_wheelTold, .int o_trades, .int o_people, .int o_draftTrades, .int o_draftPeople, .int o_isShut, .ref a_o_tunes, .ref a_o_s, .ref a_o_spare, .ref a_o_kept, .ref a_o_isKept, .ref a_o_makes, .ref a_o_works, .ref a_o_order, .int o_falling])), (a_o_text, .inl (cI, 400, .inl o_text))] H := hP
      have hD : va_D A [(a_o, .inr (5, [.int o_thrown, .long o_trace, .ref a_o_text, .int o_typed, .int o_next, .int o_token, .int o_place, .int o_value, .int o_place, .ref a_o_need, .ref a_o_made, .ref a_o_skillTold, .ref a_o_placeTold, .ref a_o_skips, .ref a_o_wheelTold, .int o_trades, .int o_people, .int o_draftTrades, .int o_draftPeople, .int o_isShut, .ref a_o_tunes, .ref a_o_s, .ref a_o_spare, .ref a_o_kept, .ref a_o_isKept, .ref a_o_makes, .ref a_o_works, .ref a_o_order, .int o_falling])), (a_o_text, .inl (cI, 400, .inl o_text))] := hD
      refine lv_iconst (v := (0 : Int32)) hx hb dX5_takes_21 (by decide) ?_
      have q0 := Option.some.inj hf
      obtain ⟨e0, q1⟩ := Prod.mk.inj q0
      obtain ⟨e1, q2⟩ := Prod.mk.inj q1
      obtain ⟨e2, q3⟩ := Prod.mk.inj q2
      obtain ⟨e3, q4⟩ := Prod.mk.inj q3
      obtain ⟨e4, q5⟩ := Prod.mk.inj q4
      subst e0
      subst e1
      subst e2
      subst e3
      subst e4
      subst q5
      exact gRi hx hb hr hlocks hP hS dX5_takes_22
  · have hf := pit hf c_2
    refine lv_iconst (v := (0 : Int32)) hx hb dX5_takes_7 (by decide) ?_
    have q0 := Option.some.inj hf
    obtain ⟨e0, q1⟩ := Prod.mk.inj q0
    obtain ⟨e1, q2⟩ := Prod.mk.inj q1
    obtain ⟨e2, q3⟩ := Prod.mk.inj q2
    obtain ⟨e3, q4⟩ := Prod.mk.inj q3
    obtain ⟨e4, q5⟩ := Prod.mk.inj q4
    subst e0
    subst e1
    subst e2
    subst e3
    subst e4
    subst q5
    exact gRi hx hb hr hlocks hP hS dX5_takes_8
abbrev rmX5_number : Room := { frames := 5, cells := 0, slots := 0, locals := 114 }
set_option maxRecDepth 20000 in
theorem uX5_number_X5 : ∀ w ∈ wsX50, w ∈ wsX5_number := by decide +kernel
set_option maxRecDepth 20000 in
theorem mX5_number_0 : (Cond.fieldLink RX5 92 "TradeWheelModel" "token" "I" : Cond) ∈ wsX5_number := by decide +kernel
set_option maxRecDepth 20000 in
theorem mX5_number_1 : (Cond.fieldLink RX5 99 "TradeWheelModel" "value" "I" : Cond) ∈ wsX5_number := by decide +kernel
set_option maxHeartbeats 4000000 in
set_option maxRecDepth 100000 in
theorem kX5_number (l : Launch) (dC : Nat → ClassId) (dI : Nat → Nat → Nat) (Z : gZ) (cC cI cZ cW : ClassId) (a_o a_o_text a_o_need a_o_made a_o_skillTold a_o_placeTold a_o_skips a_o_wheelTold a_o_tunes a_o_s a_o_spare a_o_kept a_o_isKept a_o_makes a_o_works a_o_order : Nat) (sz : Nat) (o_thrown : Int32) (o_trace : Int64) (o_typed : Int32) (o_next : Int32) (o_token : Int32) (o_place : Int32) (o_value : Int32) (o_fault : Int32) (o_trades : Int32) (o_people : Int32) (o_draftTrades : Int32) (o_draftPeople : Int32) (o_isShut : Int32) (o_falling : Int32) (o_text : Nat → Int32) (i1 : Int32) (i2 : Int32) (N : Nat) (r' : Int32) (o_next' : Int32) (o_token' : Int32) (o_place' : Int32) (o_value' : Int32) (o_fault' : Int32) (hf : fX5_number N o_typed o_next o_token o_place o_value o_fault o_text  i1 i2 = some (r', o_next', o_token', o_place', o_value', o_fault')) : Met l yX5_number wsX5_number rmX5_number (va_Pc [.ref a_o, .int i1, .int i2] (gB (dC, dI) Z [(cC, .char), (cI, .int), (cZ, .boolean), (cW, .object RX3)] [(a_o, .inr (5, [.int o_thrown, .long o_trace, .ref a_o_text, .int o_typed, .int o_next, .int o_token, .int o_place, .int o_value, .int o_fault, .ref a_o_need, .ref a_o_made, .ref a_o_skillTold, .ref a_o_placeTold, .ref a_o_skips, .ref a_o_wheelTold, .int o_trades, .int o_people, .int o_draftTrades, .int o_draftPeople, .int o_isShut, .ref a_o_tunes, .ref a_o_s, .ref a_o_spare, .ref a_o_kept, .ref a_o_isKept, .ref a_o_makes, .ref a_o_works, .ref a_o_order, .int o_falling])), (a_o_text, .inl (cI, 400, .inl o_text))] sz)) (va_Qi (fun (r : Int32) (_ : Unit) => r = r') (gE (dC, dI) [(a_o, .inr (5, [.int o_thrown, .long o_trace, .ref a_o_text, .int o_typed, .int o_next', .int o_token', .int o_place', .int o_value', .int o_fault', .ref a_o_need, .ref a_o_made, .ref a_o_skillTold, .ref a_o_placeTold, .ref a_o_skips, .ref a_o_wheelTold, .int o_trades, .int o_people, .int o_draftTrades, .int o_draftPeople, .int o_isShut, .ref a_o_tunes, .ref a_o_s, .ref a_o_spare, .ref a_o_kept, .ref a_o_isKept, .ref a_o_makes, .ref a_o_works, .ref a_o_order, .int o_falling])), (a_o_text, .inl (cI, 400, .inl o_text))]) (va_A [(a_o, .inr (5, [.int o_thrown, .long o_trace, .ref a_o_text, .int o_typed, .int o_next, .int o_token, .int o_place, .int o_value, .int o_fault, .ref a_o_need, .ref a_o_made, .ref a_o_skillTold, .ref a_o_placeTold, .ref a_o_skips, .ref a_o_wheelTold, .int o_trades, .int o_people, .int o_draftTrades, .int o_draftPeople, .int o_isShut, .ref a_o_tunes, .ref a_o_s, .ref a_o_spare, .ref a_o_kept, .ref a_o_isKept, .ref a_o_makes, .ref a_o_works, .ref a_o_order, .int o_falling])), (a_o_text, .inl (cI, 400, .inl o_text))] sz)) 0 0 (va_A [(a_o, .inr (5, [.int o_thrown, .long o_trace, .ref a_o_text, .int o_typed, .int o_next, .int o_token, .int o_place, .int o_value, .int o_fault, .ref a_o_need, .ref a_o_made, .ref a_o_skillTold, .ref a_o_placeTold, .ref a_o_skips, .ref a_o_wheelTold, .int o_trades, .int o_people, .int o_draftTrades, .int o_draftPeople, .int o_isShut, .ref a_o_tunes, .ref a_o_s, .ref a_o_spare, .ref a_o_kept, .ref a_o_isKept, .ref a_o_makes, .ref a_o_works, .ref a_o_order, .int o_falling])), (a_o_text, .inl (cI, 400, .inl o_text))] sz) := by
  refine gMet (cc := cX5_number) (maxL := 3) (ret := (some .int)) (Qc := fun A => va_Qi (fun (r : Int32) (_ : Unit) => r = r') (gE (dC, dI) [(a_o, .inr (5, [.int o_thrown, .long o_trace, .ref a_o_text, .int o_typed, .int o_next', .int o_token', .int o_place', .int o_value', .int o_fault', .ref a_o_need, .ref a_o_made, .ref a_o_skillTold, .ref a_o_placeTold, .ref a_o_skips, .ref a_o_wheelTold, .int o_trades, .int o_people, .int o_draftTrades, .int o_draftPeople, .int o_isShut, .ref a_o_tunes, .ref a_o_s, .ref a_o_spare, .ref a_o_kept, .ref a_o_isKept, .ref a_o_makes, .ref a_o_works, .ref a_o_order, .int o_falling])), (a_o_text, .inl (cI, 400, .inl o_text))]) A) (by decide) rfl (Nat.le_of_ble_eq_true rfl) ?_
  intro p e s m below meth c A ls hg0 _ hsz hP hD hS hl
  have hg0 : gX p s m _ meth c cX5_number 3 (some .int) wsX5_number RX5 (dC, dI) Z [(cC, .char), (cI, .int), (cZ, .boolean), (cW, .object RX3)] A := hg0
  obtain ⟨hx, hb, hr, hml, hown, hts, hlocks, hA, hK, hN⟩ := id hg0
  subst hsz
  have hF : CallFix p m c cX5_number 3 s _ wsX5_number RX5 := ⟨hx, hb, hml, hown, hts⟩
  have hl : lv_has ls 3 [(0, .ref a_o), (1, .int i1), (2, .int i2)] := hl
  unfold fX5_number at hf
  refine lv_aload_n hx hb dX5_number_0 rfl (lv_at hl 0 rfl) ?_
  refine lv_aload_n hx hb dX5_number_1 rfl (lv_at hl 0 rfl) ?_
  refine va_get (D := (dC, dI)) (ci := 5) (v := .int o_token) (C := RX5) (T := TX5) (N := 29) hx hb hts uX5_number_X5 hown hK hP 0 rfl rfl 5 (by decide) (hts _ mX5_number_0) (fun _ h9 => h9) rfl dX5_number_2 ?_
  refine lv_iconst (v := (2 : Int32)) hx hb dX5_number_5 (by decide) ?_
  refine lv_icmp_ne (tgt := 25) hx hb dX5_number_6 (by decide) (fun c_1 => ?_) (fun c_1 => ?_)
  · have hf := pif hf c_1
    refine lv_iconst (v := (0 : Int32)) hx hb dX5_number_25 (by decide) ?_
    obtain ⟨r_2, o_next_3, o_token_4, o_place_5, o_value_6, o_fault_7, hc, hf⟩ := pb6 hf
    refine gCi (va_runV (As := [.int (0 : Int32)]) (rest := []) hF (kX5_takes l dC dI Z cC cI cZ cW a_o a_o_text a_o_need a_o_made a_o_skillTold a_o_placeTold a_o_skips a_o_wheelTold a_o_tunes a_o_s a_o_spare a_o_kept a_o_isKept a_o_makes a_o_works a_o_order _ o_thrown o_trace o_typed o_next o_token o_place o_value o_fault o_trades o_people o_draftTrades o_draftPeople o_isShut o_falling o_text (0 : Int32) N r_2 o_next_3 o_token_4 o_place_5 o_value_6 o_fault_7 hc) (cwV 1 hts gX5_number_X5_takes rfl rfl rfl (by decide +kernel) ⟨Nat.le_of_ble_eq_true rfl, Nat.le_of_ble_eq_true rfl⟩) (gPV (wc := [(a_o, .inr (5, [.int o_thrown, .long o_trace, .ref a_o_text, .int o_typed, .int o_next, .int o_token, .int o_place, .int o_value, .int o_fault, .ref a_o_need, .ref a_o_made, .ref a_o_skillTold, .ref a_o_placeTold, .ref a_o_skips, .ref a_o_wheelTold, .int o_trades, .int o_people, .int o_draftTrades, .int o_draftPeople, .int o_isShut, .ref a_o_tunes, .ref a_o_s, .ref a_o_spare, .ref a_o_kept, .ref a_o_isKept, .ref a_o_makes, .ref a_o_works, .ref a_o_order, .int o_falling])), (a_o_text, .inl (cI, 400, .inl o_text))]) hK hN hA hS hP hD [0, 1] rfl rfl (q0 := 0) (ci := 5) rfl rfl rfl) rfl rfl hl.1 rfl (lv_room (Nat.le_of_ble_eq_true rfl)) dX5_number_26 ⟨Nat.zero_le _, Nat.zero_le _⟩) hP hD hS hA [0, 1] rfl rfl rfl (fun H locs hP hD hS => ?_)
    have hP : va_P (dC, dI) vwCl [(a_o, .inr (5, [.int o_thrown, .long o_trace, .ref a_o_text, .int o_typed, .int o_next_3, .int o_token_4, .int o_place_5, .int o_value_6, .int o_fault_7, .ref a_o_need, .ref a_o_made, .ref a_o_skillTold, .ref a_o_placeTold, .ref a_o_skips, .ref a_o_wheelTold, .int o_trades, .int o_people, .int o_draftTrades, .int o_draftPeople, .int o_isShut, .ref a_o_tunes, .ref a_o_s, .ref a_o_spare, .ref a_o_kept, .ref a_o_isKept, .ref a_o_makes, .ref a_o_works, .ref a_o_order, .int o_falling])), (a_o_text, .inl (cI, 400, .inl o_text))] H := hP
    have hD : va_D A [(a_o, .inr (5, [.int o_thrown, .long o_trace, .ref a_o_text, .int o_typed, .int o_next_3, .int o_token_4, .int o_place_5, .int o_value_6, .int o_fault_7, .ref a_o_need, .ref a_o_made, .ref a_o_skillTold, .ref a_o_placeTold, .ref a_o_skips, .ref a_o_wheelTold, .int o_trades, .int o_people, .int o_draftTrades, .int o_draftPeople, .int o_isShut, .ref a_o_tunes, .ref a_o_s, .ref a_o_spare, .ref a_o_kept, .ref a_o_isKept, .ref a_o_makes, .ref a_o_works, .ref a_o_order, .int o_falling])), (a_o_text, .inl (cI, 400, .inl o_text))] := hD
    have q0 := Option.some.inj hf
    obtain ⟨e0, q1⟩ := Prod.mk.inj q0
    obtain ⟨e1, q2⟩ := Prod.mk.inj q1
    obtain ⟨e2, q3⟩ := Prod.mk.inj q2
    obtain ⟨e3, q4⟩ := Prod.mk.inj q3
    obtain ⟨e4, q5⟩ := Prod.mk.inj q4
    subst e0
    subst e1
    subst e2
    subst e3
    subst e4
    subst q5
    exact gRi hx hb hr hlocks hP hS dX5_number_29
  · have hf := pit hf c_1
    refine lv_aload_n hx hb dX5_number_9 rfl (lv_at hl 0 rfl) ?_
    refine va_get (D := (dC, dI)) (ci := 5) (v := .int o_value) (C := RX5) (T := TX5) (N := 29) hx hb hts uX5_number_X5 hown hK hP 0 rfl rfl 7 (by decide) (hts _ mX5_number_1) (fun _ h9 => h9) rfl dX5_number_10 ?_
    refine lv_iload_n hx hb dX5_number_13 rfl (lv_at hl 1 rfl) ?_
    refine lv_iload_n hx hb dX5_number_14 rfl (lv_at hl 2 rfl) ?_
    obtain ⟨r_8, hc, hf⟩ := pb1 hf
    refine gCi (va_runS (As := [.int o_value, .int i1, .int i2]) (rest := [.ref a_o]) hF (kX5_in l dC dI Z cC cI cZ cW  _  o_value i1 i2 N r_8 hc) (cwS 3 hts gX5_number_X5_in rfl rfl rfl (by decide +kernel) ⟨Nat.le_of_ble_eq_true rfl, Nat.le_of_ble_eq_true rfl⟩) (gPS (wc := []) hK hN hA hS hP hD [] rfl rfl) rfl rfl hl.1 rfl (lv_room (Nat.le_of_ble_eq_true rfl)) dX5_number_15 ⟨Nat.zero_le _, Nat.zero_le _⟩) hP hD hS hA [] rfl rfl rfl (fun H locs hP hD hS => ?_)
    have hP : va_P (dC, dI) vwCl [(a_o, .inr (5, [.int o_thrown, .long o_trace, .ref a_o_text, .int o_typed, .int o_next, .int o_token, .int o_place, .int o_value, .int o_fault, .ref a_o_need, .ref a_o_made, .ref a_o_skillTold, .ref a_o_placeTold, .ref a_o_skips, .ref a_o_wheelTold, .int o_trades, .int o_people, .int o_draftTrades, .int o_draftPeople, .int o_isShut, .ref a_o_tunes, .ref a_o_s, .ref a_o_spare, .ref a_o_kept, .ref a_o_isKept, .ref a_o_makes, .ref a_o_works, .ref a_o_order, .int o_falling])), (a_o_text, .inl (cI, 400, .inl o_text))] H := hP
    have hD : va_D A [(a_o, .inr (5, [.int o_thrown, .long o_trace, .ref a_o_text, .int o_typed, .int o_next, .int o_token, .int o_place, .int o_value, .int o_fault, .ref a_o_need, .ref a_o_made, .ref a_o_skillTold, .ref a_o_placeTold, .ref a_o_skips, .ref a_o_wheelTold, .int o_trades, .int o_people, .int o_draftTrades, .int o_draftPeople, .int o_isShut, .ref a_o_tunes, .ref a_o_s, .ref a_o_spare, .ref a_o_kept, .ref a_o_isKept, .ref a_o_makes, .ref a_o_works, .ref a_o_order, .int o_falling])), (a_o_text, .inl (cI, 400, .inl o_text))] := hD
    refine lv_if_eq (tgt := 25) hx hb dX5_number_18 (by decide) (fun c_9 => ?_) (fun c_9 => ?_)
    · have hf := pit hf c_9
      refine lv_iconst (v := (0 : Int32)) hx hb dX5_number_25 (by decide) ?_
      obtain ⟨r_10, o_next_11, o_token_12, o_place_13, o_value_14, o_fault_15, hc, hf⟩ := pb6 hf
      refine gCi (va_runV (As := [.int (0 : Int32)]) (rest := []) hF (kX5_takes l dC dI Z cC cI cZ cW a_o a_o_text a_o_need a_o_made a_o_skillTold a_o_placeTold a_o_skips a_o_wheelTold a_o_tunes a_o_s a_o_spare a_o_kept a_o_isKept a_o_makes a_o_works a_o_order _ o_thrown o_trace o_typed o_next o_token o_place o_value o_fault o_trades o_people o_draftTrades o_draftPeople o_isShut o_falling o_text (0 : Int32) N r_10 o_next_11 o_token_12 o_place_13 o_value_14 o_fault_15 hc) (cwV 1 hts gX5_number_X5_takes rfl rfl rfl (by decide +kernel) ⟨Nat.le_of_ble_eq_true rfl, Nat.le_of_ble_eq_true rfl⟩) (gPV (wc := [(a_o, .inr (5, [.int o_thrown, .long o_trace, .ref a_o_text, .int o_typed, .int o_next, .int o_token, .int o_place, .int o_value, .int o_fault, .ref a_o_need, .ref a_o_made, .ref a_o_skillTold, .ref a_o_placeTold, .ref a_o_skips, .ref a_o_wheelTold, .int o_trades, .int o_people, .int o_draftTrades, .int o_draftPeople, .int o_isShut, .ref a_o_tunes, .ref a_o_s, .ref a_o_spare, .ref a_o_kept, .ref a_o_isKept, .ref a_o_makes, .ref a_o_works, .ref a_o_order, .int o_falling])), (a_o_text, .inl (cI, 400, .inl o_text))]) hK hN hA hS hP hD [0, 1] rfl rfl (q0 := 0) (ci := 5) rfl rfl rfl) rfl rfl hl.1 rfl (lv_room (Nat.le_of_ble_eq_true rfl)) dX5_number_26 ⟨Nat.zero_le _, Nat.zero_le _⟩) hP hD hS hA [0, 1] rfl rfl rfl (fun H locs hP hD hS => ?_)
      have hP : va_P (dC, dI) vwCl [(a_o, .inr (5, [.int o_thrown, .long o_trace, .ref a_o_text, .int o_typed, .int o_next_11, .int o_token_12, .int o_place_13, .int o_value_14, .int o_fault_15, .ref a_o_need, .ref a_o_made, .ref a_o_skillTold, .ref a_o_placeTold, .ref a_o_skips, .ref a_o_wheelTold, .int o_trades, .int o_people, .int o_draftTrades, .int o_draftPeople, .int o_isShut, .ref a_o_tunes, .ref a_o_s, .ref a_o_spare, .ref a_o_kept, .ref a_o_isKept, .ref a_o_makes, .ref a_o_works, .ref a_o_order, .int o_falling])), (a_o_text, .inl (cI, 400, .inl o_text))] H := hP
      have hD : va_D A [(a_o, .inr (5, [.int o_thrown, .long o_trace, .ref a_o_text, .int o_typed, .int o_next_11, .int o_token_12, .int o_place_13, .int o_value_14, .int o_fault_15, .ref a_o_need, .ref a_o_made, .ref a_o_skillTold, .ref a_o_placeTold, .ref a_o_skips, .ref a_o_wheelTold, .int o_trades, .int o_people, .int o_draftTrades, .int o_draftPeople, .int o_isShut, .ref a_o_tunes, .ref a_o_s, .ref a_o_spare, .ref a_o_kept, .ref a_o_isKept, .ref a_o_makes, .ref a_o_works, .ref a_o_order, .int o_falling])), (a_o_text, .inl (cI, 400, .inl o_text))] := hD
      have q0 := Option.some.inj hf
      obtain ⟨e0, q1⟩ := Prod.mk.inj q0
      obtain ⟨e1, q2⟩ := Prod.mk.inj q1
      obtain ⟨e2, q3⟩ := Prod.mk.inj q2
      obtain ⟨e3, q4⟩ := Prod.mk.inj q3
      obtain ⟨e4, q5⟩ := Prod.mk.inj q4
      subst e0
      subst e1
      subst e2
      subst e3
      subst e4
      subst q5
      exact gRi hx hb hr hlocks hP hS dX5_number_29
    · have hf := pif hf c_9
      refine lv_iconst (v := (1 : Int32)) hx hb dX5_number_21 (by decide) ?_
      refine lv_goto (tgt := 26) hx hb dX5_number_22 (by decide) ?_
      obtain ⟨r_16, o_next_17, o_token_18, o_place_19, o_value_20, o_fault_21, hc, hf⟩ := pb6 hf
      refine gCi (va_runV (As := [.int (1 : Int32)]) (rest := []) hF (kX5_takes l dC dI Z cC cI cZ cW a_o a_o_text a_o_need a_o_made a_o_skillTold a_o_placeTold a_o_skips a_o_wheelTold a_o_tunes a_o_s a_o_spare a_o_kept a_o_isKept a_o_makes a_o_works a_o_order _ o_thrown o_trace o_typed o_next o_token o_place o_value o_fault o_trades o_people o_draftTrades o_draftPeople o_isShut o_falling o_text (1 : Int32) N r_16 o_next_17 o_token_18 o_place_19 o_value_20 o_fault_21 hc) (cwV 1 hts gX5_number_X5_takes rfl rfl rfl (by decide +kernel) ⟨Nat.le_of_ble_eq_true rfl, Nat.le_of_ble_eq_true rfl⟩) (gPV (wc := [(a_o, .inr (5, [.int o_thrown, .long o_trace, .ref a_o_text, .int o_typed, .int o_next, .int o_token, .int o_place, .int o_value, .int o_fault, .ref a_o_need, .ref a_o_made, .ref a_o_skillTold, .ref a_o_placeTold, .ref a_o_skips, .ref a_o_wheelTold, .int o_trades, .int o_people, .int o_draftTrades, .int o_draftPeople, .int o_isShut, .ref a_o_tunes, .ref a_o_s, .ref a_o_spare, .ref a_o_kept, .ref a_o_isKept, .ref a_o_makes, .ref a_o_works, .ref a_o_order, .int o_falling])), (a_o_text, .inl (cI, 400, .inl o_text))]) hK hN hA hS hP hD [0, 1] rfl rfl (q0 := 0) (ci := 5) rfl rfl rfl) rfl rfl hl.1 rfl (lv_room (Nat.le_of_ble_eq_true rfl)) dX5_number_26 ⟨Nat.zero_le _, Nat.zero_le _⟩) hP hD hS hA [0, 1] rfl rfl rfl (fun H locs hP hD hS => ?_)
      have hP : va_P (dC, dI) vwCl [(a_o, .inr (5, [.int o_thrown, .long o_trace, .ref a_o_text, .int o_typed, .int o_next_17, .int o_token_18, .int o_place_19, .int o_value_20, .int o_fault_21, .ref a_o_need, .ref a_o_made, .ref a_o_skillTold, .ref a_o_placeTold, .ref a_o_skips, .ref a_o_wheelTold, .int o_trades, .int o_people, .int o_draftTrades, .int o_draftPeople, .int o_isShut, .ref a_o_tunes, .ref a_o_s, .ref a_o_spare, .ref a_o_kept, .ref a_o_isKept, .ref a_o_makes, .ref a_o_works, .ref a_o_order, .int o_falling])), (a_o_text, .inl (cI, 400, .inl o_text))] H := hP
      have hD : va_D A [(a_o, .inr (5, [.int o_thrown, .long o_trace, .ref a_o_text, .int o_typed, .int o_next_17, .int o_token_18, .int o_place_19, .int o_value_20, .int o_fault_21, .ref a_o_need, .ref a_o_made, .ref a_o_skillTold, .ref a_o_placeTold, .ref a_o_skips, .ref a_o_wheelTold, .int o_trades, .int o_people, .int o_draftTrades, .int o_draftPeople, .int o_isShut, .ref a_o_tunes, .ref a_o_s, .ref a_o_spare, .ref a_o_kept, .ref a_o_isKept, .ref a_o_makes, .ref a_o_works, .ref a_o_order, .int o_falling])), (a_o_text, .inl (cI, 400, .inl o_text))] := hD
      have q0 := Option.some.inj hf
      obtain ⟨e0, q1⟩ := Prod.mk.inj q0
      obtain ⟨e1, q2⟩ := Prod.mk.inj q1
      obtain ⟨e2, q3⟩ := Prod.mk.inj q2
      obtain ⟨e3, q4⟩ := Prod.mk.inj q3
      obtain ⟨e4, q5⟩ := Prod.mk.inj q4
      subst e0
      subst e1
      subst e2
      subst e3
      subst e4
      subst q5
      exact gRi hx hb hr hlocks hP hS dX5_number_29
abbrev rmX5_readsWheel : Room := { frames := 5, cells := 0, slots := 0, locals := 114 }
set_option maxRecDepth 20000 in
theorem uX5_readsWheel_X5 : ∀ w ∈ wsX50, w ∈ wsX5_readsWheel := by decide +kernel
set_option maxRecDepth 20000 in
theorem mX5_readsWheel_0 : (Cond.fieldLink RX5 116 "TradeWheelModel" "draftTrades" "I" : Cond) ∈ wsX5_readsWheel := by decide +kernel
set_option maxRecDepth 20000 in
theorem mX5_readsWheel_1 : (Cond.fieldLink RX5 92 "TradeWheelModel" "token" "I" : Cond) ∈ wsX5_readsWheel := by decide +kernel
set_option maxRecDepth 20000 in
theorem mX5_readsWheel_2 : (Cond.fieldLink RX5 28 "TradeWheelModel" "wheelTold" "[I" : Cond) ∈ wsX5_readsWheel := by decide +kernel
set_option maxRecDepth 20000 in
theorem mX5_readsWheel_3 : (Cond.fieldLink RX5 99 "TradeWheelModel" "value" "I" : Cond) ∈ wsX5_readsWheel := by decide +kernel
set_option maxHeartbeats 4000000 in
set_option maxRecDepth 100000 in
theorem wX5_readsWheel_4 {p : Program} {l : Launch} {e : Env} {s : State} {m : MethodId} {args : Array Value} {below : List Frame} {meth : Method} {c : Code} {Q : State → Prop} {A : Nat → Prop} {dC : Nat → ClassId} {dI : Nat → Nat → Nat} {Z : gZ} {cC cI cZ cW : ClassId} (hg0 : gX p s m args meth c cX5_readsWheel 4 none wsX5_readsWheel RX5 (dC, dI) Z [(cC, .char), (cI, .int), (cZ, .boolean), (cW, .object RX3)] A) (a_o a_o_text a_o_need a_o_made a_o_skillTold a_o_placeTold a_o_skips a_o_wheelTold a_o_tunes a_o_s a_o_spare a_o_kept a_o_isKept a_o_makes a_o_works a_o_order : Nat) (o_thrown : Int32) (o_trace : Int64) (o_typed : Int32) (o_trades : Int32) (o_people : Int32) (o_draftTrades : Int32) (o_draftPeople : Int32) (o_isShut : Int32) (o_falling : Int32) (o_text : Nat → Int32)  (N : Nat) : ∀ (n : Nat) (o_next : Int32) (o_token : Int32) (o_place : Int32) (o_value : Int32) (o_fault : Int32) (o_wheelTold : Nat → Int32) (l1 : Int32) (l2 : Int32) (o_next' : Int32) (o_token' : Int32) (o_place' : Int32) (o_value' : Int32) (o_fault' : Int32) (o_wheelTold' : Nat → Int32) (l1' : Int32) (l2' : Int32), fX5_readsWheel_4 N o_typed o_draftTrades o_text n o_next o_token o_place o_value o_fault o_wheelTold l1 l2 = some (o_next', o_token', o_place', o_value', o_fault', o_wheelTold', l1', l2') → ∀ (H : Heap) (locs : List Loc) (ls : Array Slot), va_P (dC, dI) vwCl [(a_o, .inr (5, [.int o_thrown, .long o_trace, .ref a_o_text, .int o_typed, .int o_next, .int o_token, .int o_place, .int o_value, .int o_fault, .ref a_o_need, .ref a_o_made, .ref a_o_skillTold, .ref a_o_placeTold, .ref a_o_skips, .ref a_o_wheelTold, .int o_trades, .int o_people, .int o_draftTrades, .int o_draftPeople, .int o_isShut, .ref a_o_tunes, .ref a_o_s, .ref a_o_spare, .ref a_o_kept, .ref a_o_isKept, .ref a_o_makes, .ref a_o_works, .ref a_o_order, .int o_falling])), (a_o_text, .inl (cI, 400, .inl o_text)), (a_o_wheelTold, .inl (cI, 12, .inl o_wheelTold))] H → va_D A [(a_o, .inr (5, [.int o_thrown, .long o_trace, .ref a_o_text, .int o_typed, .int o_next, .int o_token, .int o_place, .int o_value, .int o_fault, .ref a_o_need, .ref a_o_made, .ref a_o_skillTold, .ref a_o_placeTold, .ref a_o_skips, .ref a_o_wheelTold, .int o_trades, .int o_people, .int o_draftTrades, .int o_draftPeople, .int o_isShut, .ref a_o_tunes, .ref a_o_s, .ref a_o_spare, .ref a_o_kept, .ref a_o_isKept, .ref a_o_makes, .ref a_o_works, .ref a_o_order, .int o_falling])), (a_o_text, .inl (cI, 400, .inl o_text)), (a_o_wheelTold, .inl (cI, 12, .inl o_wheelTold))] → va_S A s.heap H locs → lv_has ls 4 [(0, .ref a_o), (1, .int l1), (2, .int l2)] → (∀ (H : Heap) (locs : List Loc) (ls : Array Slot), va_P (dC, dI) vwCl [(a_o, .inr (5, [.int o_thrown, .long o_trace, .ref a_o_text, .int o_typed, .int o_next', .int o_token', .int o_place', .int o_value', .int o_fault', .ref a_o_need, .ref a_o_made, .ref a_o_skillTold, .ref a_o_placeTold, .ref a_o_skips, .ref a_o_wheelTold, .int o_trades, .int o_people, .int o_draftTrades, .int o_draftPeople, .int o_isShut, .ref a_o_tunes, .ref a_o_s, .ref a_o_spare, .ref a_o_kept, .ref a_o_isKept, .ref a_o_makes, .ref a_o_works, .ref a_o_order, .int o_falling])), (a_o_text, .inl (cI, 400, .inl o_text)), (a_o_wheelTold, .inl (cI, 12, .inl o_wheelTold'))] H → va_D A [(a_o, .inr (5, [.int o_thrown, .long o_trace, .ref a_o_text, .int o_typed, .int o_next', .int o_token', .int o_place', .int o_value', .int o_fault', .ref a_o_need, .ref a_o_made, .ref a_o_skillTold, .ref a_o_placeTold, .ref a_o_skips, .ref a_o_wheelTold, .int o_trades, .int o_people, .int o_draftTrades, .int o_draftPeople, .int o_isShut, .ref a_o_tunes, .ref a_o_s, .ref a_o_spare, .ref a_o_kept, .ref a_o_isKept, .ref a_o_makes, .ref a_o_works, .ref a_o_order, .int o_falling])), (a_o_text, .inl (cI, 400, .inl o_text)), (a_o_wheelTold, .inl (cI, 12, .inl o_wheelTold'))] → va_S A s.heap H locs → lv_has ls 4 [] → W p l e (headSpec wsX5_readsWheel rmX5_readsWheel).room s m args below meth c H locs 0 0 Q (F0 m 87 ls [])) → W p l e (headSpec wsX5_readsWheel rmX5_readsWheel).room s m args below meth c H locs 0 0 Q (F0 m 4 ls []) := by
  obtain ⟨hx, hb, hr, hml, hown, hts, hlocks, hA, hK, hN⟩ := id hg0
  have hF : CallFix p m c cX5_readsWheel 4 s args wsX5_readsWheel RX5 := ⟨hx, hb, hml, hown, hts⟩
  intro n
  induction n with
  | zero =>
    intro o_next o_token o_place o_value o_fault o_wheelTold l1 l2 o_next' o_token' o_place' o_value' o_fault' o_wheelTold' l1' l2' hf
    have hf := fX5_readsWheel_4_0.symm.trans hf
    cases hf
  | succ n ih =>
    intro o_next o_token o_place o_value o_fault o_wheelTold l1 l2 o_next' o_token' o_place' o_value' o_fault' o_wheelTold' l1' l2' hf H locs ls hP hD hS hl kx
    have hf := fX5_readsWheel_4_s.symm.trans hf
    refine lv_iload_n hx hb dX5_readsWheel_4 rfl (lv_at hl 2 rfl) ?_
    refine lv_aload_n hx hb dX5_readsWheel_5 rfl (lv_at hl 0 rfl) ?_
    refine va_get (D := (dC, dI)) (ci := 5) (v := .int o_draftTrades) (C := RX5) (T := TX5) (N := 29) hx hb hts uX5_readsWheel_X5 hown hK hP 0 rfl rfl 17 (by decide) (hts _ mX5_readsWheel_0) (fun _ h9 => h9) rfl dX5_readsWheel_6 ?_
    refine lv_icmp_ge (tgt := 87) hx hb dX5_readsWheel_9 (by decide) (fun c_1 => ?_) (fun c_1 => ?_)
    · have hf := pit hf c_1
      have q0 := Option.some.inj hf
      obtain ⟨e0, q1⟩ := Prod.mk.inj q0
      obtain ⟨e1, q2⟩ := Prod.mk.inj q1
      obtain ⟨e2, q3⟩ := Prod.mk.inj q2
      obtain ⟨e3, q4⟩ := Prod.mk.inj q3
      obtain ⟨e4, q5⟩ := Prod.mk.inj q4
      obtain ⟨e5, q6⟩ := Prod.mk.inj q5
      obtain ⟨e6, q7⟩ := Prod.mk.inj q6
      subst e0
      subst e1
      subst e2
      subst e3
      subst e4
      subst e5
      subst e6
      subst q7
      exact kx _ _ _ hP hD hS (lv_sub hl [] rfl)
    · have hf := pif hf c_1
      refine lv_aload_n hx hb dX5_readsWheel_12 rfl (lv_at hl 0 rfl) ?_
      refine lv_aload_n hx hb dX5_readsWheel_13 rfl (lv_at hl 0 rfl) ?_
      refine va_get (D := (dC, dI)) (ci := 5) (v := .int o_token) (C := RX5) (T := TX5) (N := 29) hx hb hts uX5_readsWheel_X5 hown hK hP 0 rfl rfl 5 (by decide) (hts _ mX5_readsWheel_1) (fun _ h9 => h9) rfl dX5_readsWheel_14 ?_
      refine lv_iconst (v := (2 : Int32)) hx hb dX5_readsWheel_17 (by decide) ?_
      refine lv_icmp_ne (tgt := 53) hx hb dX5_readsWheel_18 (by decide) (fun c_2 => ?_) (fun c_2 => ?_)
      · have hf := pif hf c_2
        refine lv_iconst (v := (0 : Int32)) hx hb dX5_readsWheel_53 (by decide) ?_
        obtain ⟨r_3, o_next_4, o_token_5, o_place_6, o_value_7, o_fault_8, hc, hf⟩ := pb6 hf
        refine gCi (va_runV (As := [.int (0 : Int32)]) (rest := []) hF (kX5_takes l dC dI Z cC cI cZ cW a_o a_o_text a_o_need a_o_made a_o_skillTold a_o_placeTold a_o_skips a_o_wheelTold a_o_tunes a_o_s a_o_spare a_o_kept a_o_isKept a_o_makes a_o_works a_o_order _ o_thrown o_trace o_typed o_next o_token o_place o_value o_fault o_trades o_people o_draftTrades o_draftPeople o_isShut o_falling o_text (0 : Int32) N r_3 o_next_4 o_token_5 o_place_6 o_value_7 o_fault_8 hc) (cwV 1 hts gX5_readsWheel_X5_takes rfl rfl rfl (by decide +kernel) ⟨Nat.le_of_ble_eq_true rfl, Nat.le_of_ble_eq_true rfl⟩) (gPV (wc := [(a_o, .inr (5, [.int o_thrown, .long o_trace, .ref a_o_text, .int o_typed, .int o_next, .int o_token, .int o_place, .int o_value, .int o_fault, .ref a_o_need, .ref a_o_made, .ref a_o_skillTold, .ref a_o_placeTold, .ref a_o_skips, .ref a_o_wheelTold, .int o_trades, .int o_people, .int o_draftTrades, .int o_draftPeople, .int o_isShut, .ref a_o_tunes, .ref a_o_s, .ref a_o_spare, .ref a_o_kept, .ref a_o_isKept, .ref a_o_makes, .ref a_o_works, .ref a_o_order, .int o_falling])), (a_o_text, .inl (cI, 400, .inl o_text))]) hK hN hA hS hP hD [0, 1] rfl rfl (q0 := 0) (ci := 5) rfl rfl rfl) rfl rfl hl.1 rfl (lv_room (Nat.le_of_ble_eq_true rfl)) dX5_readsWheel_54 ⟨Nat.zero_le _, Nat.zero_le _⟩) hP hD hS hA [0, 1] rfl rfl rfl (fun H locs hP hD hS => ?_)
        have hP : va_P (dC, dI) vwCl [(a_o, .inr (5, [.int o_thrown, .long o_trace, .ref a_o_text, .int o_typed, .int o_next_4, .int o_token_5, .int o_place_6, .int o_value_7, .int o_fault_8, .ref a_o_need, .ref a_o_made, .ref a_o_skillTold, .ref a_o_placeTold, .ref a_o_skips, .ref a_o_wheelTold, .int o_trades, .int o_people, .int o_draftTrades, .int o_draftPeople, .int o_isShut, .ref a_o_tunes, .ref a_o_s, .ref a_o_spare, .ref a_o_kept, .ref a_o_isKept, .ref a_o_makes, .ref a_o_works, .ref a_o_order, .int o_falling])), (a_o_text, .inl (cI, 400, .inl o_text)), (a_o_wheelTold, .inl (cI, 12, .inl o_wheelTold))] H := hP
        have hD : va_D A [(a_o, .inr (5, [.int o_thrown, .long o_trace, .ref a_o_text, .int o_typed, .int o_next_4, .int o_token_5, .int o_place_6, .int o_value_7, .int o_fault_8, .ref a_o_need, .ref a_o_made, .ref a_o_skillTold, .ref a_o_placeTold, .ref a_o_skips, .ref a_o_wheelTold, .int o_trades, .int o_people, .int o_draftTrades, .int o_draftPeople, .int o_isShut, .ref a_o_tunes, .ref a_o_s, .ref a_o_spare, .ref a_o_kept, .ref a_o_isKept, .ref a_o_makes, .ref a_o_works, .ref a_o_order, .int o_falling])), (a_o_text, .inl (cI, 400, .inl o_text)), (a_o_wheelTold, .inl (cI, 12, .inl o_wheelTold))] := hD
        refine lv_istore_n (lv' := [(3, .int r_3), (0, .ref a_o), (1, .int l1), (2, .int l2)]) hx hb dX5_readsWheel_57 rfl hl (by decide) rfl (fun ls hl => ?_)
        refine lv_iload_n hx hb dX5_readsWheel_58 rfl (lv_at hl 2 rfl) ?_
        refine lv_iconst (v := (1 : Int32)) hx hb dX5_readsWheel_59 (by decide) ?_
        refine lv_iload_n hx hb dX5_readsWheel_60 rfl (lv_at hl 0 rfl) ?_
        refine lv_ishl hx hb dX5_readsWheel_61 ?_
        refine lv_ior hx hb dX5_readsWheel_62 ?_
        refine lv_istore_n (lv' := [(1, .int (l1 ||| ((1 : Int32) <<< (r_3 &&& 31)))), (3, .int r_3), (0, .ref a_o), (2, .int l2)]) hx hb dX5_readsWheel_63 rfl hl (by decide) rfl (fun ls hl => ?_)
        refine lv_aload_n hx hb dX5_readsWheel_64 rfl (lv_at hl 2 rfl) ?_
        obtain ⟨r_9, hc, hf⟩ := pb1 hf
        refine gCi (va_runV (As := []) (rest := []) hF (kX5_isWell l dC dI Z cC cI cZ cW a_o a_o_text a_o_need a_o_made a_o_skillTold a_o_placeTold a_o_skips a_o_wheelTold a_o_tunes a_o_s a_o_spare a_o_kept a_o_isKept a_o_makes a_o_works a_o_order _ o_thrown o_trace o_typed o_next_4 o_token_5 o_place_6 o_value_7 o_fault_8 o_trades o_people o_draftTrades o_draftPeople o_isShut o_falling  N r_9 hc) (cwV 0 hts gX5_readsWheel_X5_isWell rfl rfl rfl (by decide +kernel) ⟨Nat.le_of_ble_eq_true rfl, Nat.le_of_ble_eq_true rfl⟩) (gPV (wc := [(a_o, .inr (5, [.int o_thrown, .long o_trace, .ref a_o_text, .int o_typed, .int o_next_4, .int o_token_5, .int o_place_6, .int o_value_7, .int o_fault_8, .ref a_o_need, .ref a_o_made, .ref a_o_skillTold, .ref a_o_placeTold, .ref a_o_skips, .ref a_o_wheelTold, .int o_trades, .int o_people, .int o_draftTrades, .int o_draftPeople, .int o_isShut, .ref a_o_tunes, .ref a_o_s, .ref a_o_spare, .ref a_o_kept, .ref a_o_isKept, .ref a_o_makes, .ref a_o_works, .ref a_o_order, .int o_falling]))]) hK hN hA hS hP hD [0] rfl rfl (q0 := 0) (ci := 5) rfl rfl rfl) rfl rfl hl.1 rfl (lv_room (Nat.le_of_ble_eq_true rfl)) dX5_readsWheel_65 ⟨Nat.zero_le _, Nat.zero_le _⟩) hP hD hS hA [0] rfl rfl rfl (fun H locs hP hD hS => ?_)
        have hP : va_P (dC, dI) vwCl [(a_o, .inr (5, [.int o_thrown, .long o_trace, .ref a_o_text, .int o_typed, .int o_next_4, .int o_token_5, .int o_place_6, .int o_value_7, .int o_fault_8, .ref a_o_need, .ref a_o_made, .ref a_o_skillTold, .ref a_o_placeTold, .ref a_o_skips, .ref a_o_wheelTold, .int o_trades, .int o_people, .int o_draftTrades, .int o_draftPeople, .int o_isShut, .ref a_o_tunes, .ref a_o_s, .ref a_o_spare, .ref a_o_kept, .ref a_o_isKept, .ref a_o_makes, .ref a_o_works, .ref a_o_order, .int o_falling])), (a_o_text, .inl (cI, 400, .inl o_text)), (a_o_wheelTold, .inl (cI, 12, .inl o_wheelTold))] H := hP
        have hD : va_D A [(a_o, .inr (5, [.int o_thrown, .long o_trace, .ref a_o_text, .int o_typed, .int o_next_4, .int o_token_5, .int o_place_6, .int o_value_7, .int o_fault_8, .ref a_o_need, .ref a_o_made, .ref a_o_skillTold, .ref a_o_placeTold, .ref a_o_skips, .ref a_o_wheelTold, .int o_trades, .int o_people, .int o_draftTrades, .int o_draftPeople, .int o_isShut, .ref a_o_tunes, .ref a_o_s, .ref a_o_spare, .ref a_o_kept, .ref a_o_isKept, .ref a_o_makes, .ref a_o_works, .ref a_o_order, .int o_falling])), (a_o_text, .inl (cI, 400, .inl o_text)), (a_o_wheelTold, .inl (cI, 12, .inl o_wheelTold))] := hD
        refine lv_if_eq (tgt := 81) hx hb dX5_readsWheel_68 (by decide) (fun c_10 => ?_) (fun c_10 => ?_)
        · have hf := pit hf c_10
          refine lv_iinc (v := (l2 + 1)) (lv' := [(2, .int (l2 + 1)), (1, .int (l1 ||| ((1 : Int32) <<< (r_3 &&& 31)))), (3, .int r_3), (0, .ref a_o)]) hx hb dX5_readsWheel_81 hl (k := 3) rfl rfl (by decide) rfl (fun ls hl => ?_)
          refine lv_goto (tgt := 4) hx hb dX5_readsWheel_84 (by decide) ?_
          exact ih _ _ _ _ _ _ _ _ _ _ _ _ _ _ _ _ hf _ _ _ hP hD hS (lv_sub hl [3, 1, 0] rfl) kx
        · have hf := pif hf c_10
          refine lv_aload_n hx hb dX5_readsWheel_71 rfl (lv_at hl 2 rfl) ?_
          refine va_get (D := (dC, dI)) (ci := 5) (v := .ref a_o_wheelTold) (C := RX5) (T := TX5) (N := 29) hx hb hts uX5_readsWheel_X5 hown hK hP 0 rfl rfl 14 (by decide) (hts _ mX5_readsWheel_2) (fun _ h9 => h9) rfl dX5_readsWheel_72 ?_
          refine lv_bipush (v := (6 : Int32)) hx hb dX5_readsWheel_75 (by decide) ?_
          refine lv_iload_n hx hb dX5_readsWheel_77 rfl (lv_at hl 3 rfl) ?_
          refine lv_iadd hx hb dX5_readsWheel_78 ?_
          refine lv_iload_n hx hb dX5_readsWheel_79 rfl (lv_at hl 1 rfl) ?_
          obtain ⟨h_11, hf⟩ := pgd hf
          refine va_iast hx hb hK hP hD hS 2 1 rfl rfl h_11 dX5_readsWheel_80 (fun H locs hP hD hS => ?_)
          have hP : va_P (dC, dI) vwCl [(a_o, .inr (5, [.int o_thrown, .long o_trace, .ref a_o_text, .int o_typed, .int o_next_4, .int o_token_5, .int o_place_6, .int o_value_7, .int o_fault_8, .ref a_o_need, .ref a_o_made, .ref a_o_skillTold, .ref a_o_placeTold, .ref a_o_skips, .ref a_o_wheelTold, .int o_trades, .int o_people, .int o_draftTrades, .int o_draftPeople, .int o_isShut, .ref a_o_tunes, .ref a_o_s, .ref a_o_spare, .ref a_o_kept, .ref a_o_isKept, .ref a_o_makes, .ref a_o_works, .ref a_o_order, .int o_falling])), (a_o_text, .inl (cI, 400, .inl o_text)), (a_o_wheelTold, .inl (cI, 12, .inl (upd o_wheelTold ((6 : Int32) + l2).toNatClampNeg r_3)))] H := hP
          have hD : va_D A [(a_o, .inr (5, [.int o_thrown, .long o_trace, .ref a_o_text, .int o_typed, .int o_next_4, .int o_token_5, .int o_place_6, .int o_value_7, .int o_fault_8, .ref a_o_need, .ref a_o_made, .ref a_o_skillTold, .ref a_o_placeTold, .ref a_o_skips, .ref a_o_wheelTold, .int o_trades, .int o_people, .int o_draftTrades, .int o_draftPeople, .int o_isShut, .ref a_o_tunes, .ref a_o_s, .ref a_o_spare, .ref a_o_kept, .ref a_o_isKept, .ref a_o_makes, .ref a_o_works, .ref a_o_order, .int o_falling])), (a_o_text, .inl (cI, 400, .inl o_text)), (a_o_wheelTold, .inl (cI, 12, .inl (upd o_wheelTold ((6 : Int32) + l2).toNatClampNeg r_3)))] := hD
          refine lv_iinc (v := (l2 + 1)) (lv' := [(2, .int (l2 + 1)), (1, .int (l1 ||| ((1 : Int32) <<< (r_3 &&& 31)))), (3, .int r_3), (0, .ref a_o)]) hx hb dX5_readsWheel_81 hl (k := 3) rfl rfl (by decide) rfl (fun ls hl => ?_)
          refine lv_goto (tgt := 4) hx hb dX5_readsWheel_84 (by decide) ?_
          exact ih _ _ _ _ _ _ _ _ _ _ _ _ _ _ _ _ hf _ _ _ hP hD hS (lv_sub hl [3, 1, 0] rfl) kx
      · have hf := pit hf c_2
        refine lv_aload_n hx hb dX5_readsWheel_21 rfl (lv_at hl 0 rfl) ?_
        refine va_get (D := (dC, dI)) (ci := 5) (v := .int o_value) (C := RX5) (T := TX5) (N := 29) hx hb hts uX5_readsWheel_X5 hown hK hP 0 rfl rfl 7 (by decide) (hts _ mX5_readsWheel_3) (fun _ h9 => h9) rfl dX5_readsWheel_22 ?_
        refine lv_iconst (v := (0 : Int32)) hx hb dX5_readsWheel_25 (by decide) ?_
        refine lv_aload_n hx hb dX5_readsWheel_26 rfl (lv_at hl 0 rfl) ?_
        refine va_get (D := (dC, dI)) (ci := 5) (v := .int o_draftTrades) (C := RX5) (T := TX5) (N := 29) hx hb hts uX5_readsWheel_X5 hown hK hP 0 rfl rfl 17 (by decide) (hts _ mX5_readsWheel_0) (fun _ h9 => h9) rfl dX5_readsWheel_27 ?_
        refine lv_iconst (v := (1 : Int32)) hx hb dX5_readsWheel_30 (by decide) ?_
        refine lv_isub hx hb dX5_readsWheel_31 ?_
        obtain ⟨r_12, hc, hf⟩ := pb1 hf
        refine gCi (va_runS (As := [.int o_value, .int (0 : Int32), .int (o_draftTrades - (1 : Int32))]) (rest := [.ref a_o]) hF (kX5_in l dC dI Z cC cI cZ cW  _  o_value (0 : Int32) (o_draftTrades - (1 : Int32)) N r_12 hc) (cwS 3 hts gX5_readsWheel_X5_in rfl rfl rfl (by decide +kernel) ⟨Nat.le_of_ble_eq_true rfl, Nat.le_of_ble_eq_true rfl⟩) (gPS (wc := []) hK hN hA hS hP hD [] rfl rfl) rfl rfl hl.1 rfl (lv_room (Nat.le_of_ble_eq_true rfl)) dX5_readsWheel_32 ⟨Nat.zero_le _, Nat.zero_le _⟩) hP hD hS hA [] rfl rfl rfl (fun H locs hP hD hS => ?_)
        have hP : va_P (dC, dI) vwCl [(a_o, .inr (5, [.int o_thrown, .long o_trace, .ref a_o_text, .int o_typed, .int o_next, .int o_token, .int o_place, .int o_value, .int o_fault, .ref a_o_need, .ref a_o_made, .ref a_o_skillTold, .ref a_o_placeTold, .ref a_o_skips, .ref a_o_wheelTold, .int o_trades, .int o_people, .int o_draftTrades, .int o_draftPeople, .int o_isShut, .ref a_o_tunes, .ref a_o_s, .ref a_o_spare, .ref a_o_kept, .ref a_o_isKept, .ref a_o_makes, .ref a_o_works, .ref a_o_order, .int o_falling])), (a_o_text, .inl (cI, 400, .inl o_text)), (a_o_wheelTold, .inl (cI, 12, .inl o_wheelTold))] H := hP
        have hD : va_D A [(a_o, .inr (5, [.int o_thrown, .long o_trace, .ref a_o_text, .int o_typed, .int o_next, .int o_token, .int o_place, .int o_value, .int o_fault, .ref a_o_need, .ref a_o_made, .ref a_o_skillTold, .ref a_o_placeTold, .ref a_o_skips, .ref a_o_wheelTold, .int o_trades, .int o_people, .int o_draftTrades, .int o_draftPeople, .int o_isShut, .ref a_o_tunes, .ref a_o_s, .ref a_o_spare, .ref a_o_kept, .ref a_o_isKept, .ref a_o_makes, .ref a_o_works, .ref a_o_order, .int o_falling])), (a_o_text, .inl (cI, 400, .inl o_text)), (a_o_wheelTold, .inl (cI, 12, .inl o_wheelTold))] := hD
        refine lv_if_eq (tgt := 53) hx hb dX5_readsWheel_35 (by decide) (fun c_13 => ?_) (fun c_13 => ?_)
        · have hf := pit hf c_13
          refine lv_iconst (v := (0 : Int32)) hx hb dX5_readsWheel_53 (by decide) ?_
          obtain ⟨r_14, o_next_15, o_token_16, o_place_17, o_value_18, o_fault_19, hc, hf⟩ := pb6 hf
          refine gCi (va_runV (As := [.int (0 : Int32)]) (rest := []) hF (kX5_takes l dC dI Z cC cI cZ cW a_o a_o_text a_o_need a_o_made a_o_skillTold a_o_placeTold a_o_skips a_o_wheelTold a_o_tunes a_o_s a_o_spare a_o_kept a_o_isKept a_o_makes a_o_works a_o_order _ o_thrown o_trace o_typed o_next o_token o_place o_value o_fault o_trades o_people o_draftTrades o_draftPeople o_isShut o_falling o_text (0 : Int32) N r_14 o_next_15 o_token_16 o_place_17 o_value_18 o_fault_19 hc) (cwV 1 hts gX5_readsWheel_X5_takes rfl rfl rfl (by decide +kernel) ⟨Nat.le_of_ble_eq_true rfl, Nat.le_of_ble_eq_true rfl⟩) (gPV (wc := [(a_o, .inr (5, [.int o_thrown, .long o_trace, .ref a_o_text, .int o_typed, .int o_next, .int o_token, .int o_place, .int o_value, .int o_fault, .ref a_o_need, .ref a_o_made, .ref a_o_skillTold, .ref a_o_placeTold, .ref a_o_skips, .ref a_o_wheelTold, .int o_trades, .int o_people, .int o_draftTrades, .int o_draftPeople, .int o_isShut, .ref a_o_tunes, .ref a_o_s, .ref a_o_spare, .ref a_o_kept, .ref a_o_isKept, .ref a_o_makes, .ref a_o_works, .ref a_o_order, .int o_falling])), (a_o_text, .inl (cI, 400, .inl o_text))]) hK hN hA hS hP hD [0, 1] rfl rfl (q0 := 0) (ci := 5) rfl rfl rfl) rfl rfl hl.1 rfl (lv_room (Nat.le_of_ble_eq_true rfl)) dX5_readsWheel_54 ⟨Nat.zero_le _, Nat.zero_le _⟩) hP hD hS hA [0, 1] rfl rfl rfl (fun H locs hP hD hS => ?_)
          have hP : va_P (dC, dI) vwCl [(a_o, .inr (5, [.int o_thrown, .long o_trace, .ref a_o_text, .int o_typed, .int o_next_15, .int o_token_16, .int o_place_17, .int o_value_18, .int o_fault_19, .ref a_o_need, .ref a_o_made, .ref a_o_skillTold, .ref a_o_placeTold, .ref a_o_skips, .ref a_o_wheelTold, .int o_trades, .int o_people, .int o_draftTrades, .int o_draftPeople, .int o_isShut, .ref a_o_tunes, .ref a_o_s, .ref a_o_spare, .ref a_o_kept, .ref a_o_isKept, .ref a_o_makes, .ref a_o_works, .ref a_o_order, .int o_falling])), (a_o_text, .inl (cI, 400, .inl o_text)), (a_o_wheelTold, .inl (cI, 12, .inl o_wheelTold))] H := hP
          have hD : va_D A [(a_o, .inr (5, [.int o_thrown, .long o_trace, .ref a_o_text, .int o_typed, .int o_next_15, .int o_token_16, .int o_place_17, .int o_value_18, .int o_fault_19, .ref a_o_need, .ref a_o_made, .ref a_o_skillTold, .ref a_o_placeTold, .ref a_o_skips, .ref a_o_wheelTold, .int o_trades, .int o_people, .int o_draftTrades, .int o_draftPeople, .int o_isShut, .ref a_o_tunes, .ref a_o_s, .ref a_o_spare, .ref a_o_kept, .ref a_o_isKept, .ref a_o_makes, .ref a_o_works, .ref a_o_order, .int o_falling])), (a_o_text, .inl (cI, 400, .inl o_text)), (a_o_wheelTold, .inl (cI, 12, .inl o_wheelTold))] := hD
          refine lv_istore_n (lv' := [(3, .int r_14), (0, .ref a_o), (1, .int l1), (2, .int l2)]) hx hb dX5_readsWheel_57 rfl hl (by decide) rfl (fun ls hl => ?_)
          refine lv_iload_n hx hb dX5_readsWheel_58 rfl (lv_at hl 2 rfl) ?_
          refine lv_iconst (v := (1 : Int32)) hx hb dX5_readsWheel_59 (by decide) ?_
          refine lv_iload_n hx hb dX5_readsWheel_60 rfl (lv_at hl 0 rfl) ?_
          refine lv_ishl hx hb dX5_readsWheel_61 ?_
          refine lv_ior hx hb dX5_readsWheel_62 ?_
          refine lv_istore_n (lv' := [(1, .int (l1 ||| ((1 : Int32) <<< (r_14 &&& 31)))), (3, .int r_14), (0, .ref a_o), (2, .int l2)]) hx hb dX5_readsWheel_63 rfl hl (by decide) rfl (fun ls hl => ?_)
          refine lv_aload_n hx hb dX5_readsWheel_64 rfl (lv_at hl 2 rfl) ?_
          obtain ⟨r_20, hc, hf⟩ := pb1 hf
          refine gCi (va_runV (As := []) (rest := []) hF (kX5_isWell l dC dI Z cC cI cZ cW a_o a_o_text a_o_need a_o_made a_o_skillTold a_o_placeTold a_o_skips a_o_wheelTold a_o_tunes a_o_s a_o_spare a_o_kept a_o_isKept a_o_makes a_o_works a_o_order _ o_thrown o_trace o_typed o_next_15 o_token_16 o_place_17 o_value_18 o_fault_19 o_trades o_people o_draftTrades o_draftPeople o_isShut o_falling  N r_20 hc) (cwV 0 hts gX5_readsWheel_X5_isWell rfl rfl rfl (by decide +kernel) ⟨Nat.le_of_ble_eq_true rfl, Nat.le_of_ble_eq_true rfl⟩) (gPV (wc := [(a_o, .inr (5, [.int o_thrown, .long o_trace, .ref a_o_text, .int o_typed, .int o_next_15, .int o_token_16, .int o_place_17, .int o_value_18, .int o_fault_19, .ref a_o_need, .ref a_o_made, .ref a_o_skillTold, .ref a_o_placeTold, .ref a_o_skips, .ref a_o_wheelTold, .int o_trades, .int o_people, .int o_draftTrades, .int o_draftPeople, .int o_isShut, .ref a_o_tunes, .ref a_o_s, .ref a_o_spare, .ref a_o_kept, .ref a_o_isKept, .ref a_o_makes, .ref a_o_works, .ref a_o_order, .int o_falling]))]) hK hN hA hS hP hD [0] rfl rfl (q0 := 0) (ci := 5) rfl rfl rfl) rfl rfl hl.1 rfl (lv_room (Nat.le_of_ble_eq_true rfl)) dX5_readsWheel_65 ⟨Nat.zero_le _, Nat.zero_le _⟩) hP hD hS hA [0] rfl rfl rfl (fun H locs hP hD hS => ?_)
          have hP : va_P (dC, dI) vwCl [(a_o, .inr (5, [.int o_thrown, .long o_trace, .ref a_o_text, .int o_typed, .int o_next_15, .int o_token_16, .int o_place_17, .int o_value_18, .int o_fault_19, .ref a_o_need, .ref a_o_made, .ref a_o_skillTold, .ref a_o_placeTold, .ref a_o_skips, .ref a_o_wheelTold, .int o_trades, .int o_people, .int o_draftTrades, .int o_draftPeople, .int o_isShut, .ref a_o_tunes, .ref a_o_s, .ref a_o_spare, .ref a_o_kept, .ref a_o_isKept, .ref a_o_makes, .ref a_o_works, .ref a_o_order, .int o_falling])), (a_o_text, .inl (cI, 400, .inl o_text)), (a_o_wheelTold, .inl (cI, 12, .inl o_wheelTold))] H := hP
          have hD : va_D A [(a_o, .inr (5, [.int o_thrown, .long o_trace, .ref a_o_text, .int o_typed, .int o_next_15, .int o_token_16, .int o_place_17, .int o_value_18, .int o_fault_19, .ref a_o_need, .ref a_o_made, .ref a_o_skillTold, .ref a_o_placeTold, .ref a_o_skips, .ref a_o_wheelTold, .int o_trades, .int o_people, .int o_draftTrades, .int o_draftPeople, .int o_isShut, .ref a_o_tunes, .ref a_o_s, .ref a_o_spare, .ref a_o_kept, .ref a_o_isKept, .ref a_o_makes, .ref a_o_works, .ref a_o_order, .int o_falling])), (a_o_text, .inl (cI, 400, .inl o_text)), (a_o_wheelTold, .inl (cI, 12, .inl o_wheelTold))] := hD
          refine lv_if_eq (tgt := 81) hx hb dX5_readsWheel_68 (by decide) (fun c_21 => ?_) (fun c_21 => ?_)
          · have hf := pit hf c_21
            refine lv_iinc (v := (l2 + 1)) (lv' := [(2, .int (l2 + 1)), (1, .int (l1 ||| ((1 : Int32) <<< (r_14 &&& 31)))), (3, .int r_14), (0, .ref a_o)]) hx hb dX5_readsWheel_81 hl (k := 3) rfl rfl (by decide) rfl (fun ls hl => ?_)
            refine lv_goto (tgt := 4) hx hb dX5_readsWheel_84 (by decide) ?_
            exact ih _ _ _ _ _ _ _ _ _ _ _ _ _ _ _ _ hf _ _ _ hP hD hS (lv_sub hl [3, 1, 0] rfl) kx
          · have hf := pif hf c_21
            refine lv_aload_n hx hb dX5_readsWheel_71 rfl (lv_at hl 2 rfl) ?_
            refine va_get (D := (dC, dI)) (ci := 5) (v := .ref a_o_wheelTold) (C := RX5) (T := TX5) (N := 29) hx hb hts uX5_readsWheel_X5 hown hK hP 0 rfl rfl 14 (by decide) (hts _ mX5_readsWheel_2) (fun _ h9 => h9) rfl dX5_readsWheel_72 ?_
            refine lv_bipush (v := (6 : Int32)) hx hb dX5_readsWheel_75 (by decide) ?_
            refine lv_iload_n hx hb dX5_readsWheel_77 rfl (lv_at hl 3 rfl) ?_
            refine lv_iadd hx hb dX5_readsWheel_78 ?_
            refine lv_iload_n hx hb dX5_readsWheel_79 rfl (lv_at hl 1 rfl) ?_
            obtain ⟨h_22, hf⟩ := pgd hf
            refine va_iast hx hb hK hP hD hS 2 1 rfl rfl h_22 dX5_readsWheel_80 (fun H locs hP hD hS => ?_)
            have hP : va_P (dC, dI) vwCl [(a_o, .inr (5, [.int o_thrown, .long o_trace, .ref a_o_text, .int o_typed, .int o_next_15, .int o_token_16, .int o_place_17, .int o_value_18, .int o_fault_19, .ref a_o_need, .ref a_o_made, .ref a_o_skillTold, .ref a_o_placeTold, .ref a_o_skips, .ref a_o_wheelTold, .int o_trades, .int o_people, .int o_draftTrades, .int o_draftPeople, .int o_isShut, .ref a_o_tunes, .ref a_o_s, .ref a_o_spare, .ref a_o_kept, .ref a_o_isKept, .ref a_o_makes, .ref a_o_works, .ref a_o_order, .int o_falling])), (a_o_text, .inl (cI, 400, .inl o_text)), (a_o_wheelTold, .inl (cI, 12, .inl (upd o_wheelTold ((6 : Int32) + l2).toNatClampNeg r_14)))] H := hP
            have hD : va_D A [(a_o, .inr (5, [.int o_thrown, .long o_trace, .ref a_o_text, .int o_typed, .int o_next_15, .int o_token_16, .int o_place_17, .int o_value_18, .int o_fault_19, .ref a_o_need, .ref a_o_made, .ref a_o_skillTold, .ref a_o_placeTold, .ref a_o_skips, .ref a_o_wheelTold, .int o_trades, .int o_people, .int o_draftTrades, .int o_draftPeople, .int o_isShut, .ref a_o_tunes, .ref a_o_s, .ref a_o_spare, .ref a_o_kept, .ref a_o_isKept, .ref a_o_makes, .ref a_o_works, .ref a_o_order, .int o_falling])), (a_o_text, .inl (cI, 400, .inl o_text)), (a_o_wheelTold, .inl (cI, 12, .inl (upd o_wheelTold ((6 : Int32) + l2).toNatClampNeg r_14)))] := hD
            refine lv_iinc (v := (l2 + 1)) (lv' := [(2, .int (l2 + 1)), (1, .int (l1 ||| ((1 : Int32) <<< (r_14 &&& 31)))), (3, .int r_14), (0, .ref a_o)]) hx hb dX5_readsWheel_81 hl (k := 3) rfl rfl (by decide) rfl (fun ls hl => ?_)
            refine lv_goto (tgt := 4) hx hb dX5_readsWheel_84 (by decide) ?_
            exact ih _ _ _ _ _ _ _ _ _ _ _ _ _ _ _ _ hf _ _ _ hP hD hS (lv_sub hl [3, 1, 0] rfl) kx
        · have hf := pif hf c_13
          refine lv_iload_n hx hb dX5_readsWheel_38 rfl (lv_at hl 1 rfl) ?_
          refine lv_aload_n hx hb dX5_readsWheel_39 rfl (lv_at hl 0 rfl) ?_
          refine va_get (D := (dC, dI)) (ci := 5) (v := .int o_value) (C := RX5) (T := TX5) (N := 29) hx hb hts uX5_readsWheel_X5 hown hK hP 0 rfl rfl 7 (by decide) (hts _ mX5_readsWheel_3) (fun _ h9 => h9) rfl dX5_readsWheel_40 ?_
          refine lv_ishr hx hb dX5_readsWheel_43 ?_
          refine lv_iconst (v := (1 : Int32)) hx hb dX5_readsWheel_44 (by decide) ?_
          refine lv_iand hx hb dX5_readsWheel_45 ?_
          refine lv_if_ne (tgt := 53) hx hb dX5_readsWheel_46 (by decide) (fun c_23 => ?_) (fun c_23 => ?_)
          · have hf := pif hf c_23
            refine lv_iconst (v := (0 : Int32)) hx hb dX5_readsWheel_53 (by decide) ?_
            obtain ⟨r_24, o_next_25, o_token_26, o_place_27, o_value_28, o_fault_29, hc, hf⟩ := pb6 hf
            refine gCi (va_runV (As := [.int (0 : Int32)]) (rest := []) hF (kX5_takes l dC dI Z cC cI cZ cW a_o a_o_text a_o_need a_o_made a_o_skillTold a_o_placeTold a_o_skips a_o_wheelTold a_o_tunes a_o_s a_o_spare a_o_kept a_o_isKept a_o_makes a_o_works a_o_order _ o_thrown o_trace o_typed o_next o_token o_place o_value o_fault o_trades o_people o_draftTrades o_draftPeople o_isShut o_falling o_text (0 : Int32) N r_24 o_next_25 o_token_26 o_place_27 o_value_28 o_fault_29 hc) (cwV 1 hts gX5_readsWheel_X5_takes rfl rfl rfl (by decide +kernel) ⟨Nat.le_of_ble_eq_true rfl, Nat.le_of_ble_eq_true rfl⟩) (gPV (wc := [(a_o, .inr (5, [.int o_thrown, .long o_trace, .ref a_o_text, .int o_typed, .int o_next, .int o_token, .int o_place, .int o_value, .int o_fault, .ref a_o_need, .ref a_o_made, .ref a_o_skillTold, .ref a_o_placeTold, .ref a_o_skips, .ref a_o_wheelTold, .int o_trades, .int o_people, .int o_draftTrades, .int o_draftPeople, .int o_isShut, .ref a_o_tunes, .ref a_o_s, .ref a_o_spare, .ref a_o_kept, .ref a_o_isKept, .ref a_o_makes, .ref a_o_works, .ref a_o_order, .int o_falling])), (a_o_text, .inl (cI, 400, .inl o_text))]) hK hN hA hS hP hD [0, 1] rfl rfl (q0 := 0) (ci := 5) rfl rfl rfl) rfl rfl hl.1 rfl (lv_room (Nat.le_of_ble_eq_true rfl)) dX5_readsWheel_54 ⟨Nat.zero_le _, Nat.zero_le _⟩) hP hD hS hA [0, 1] rfl rfl rfl (fun H locs hP hD hS => ?_)
            have hP : va_P (dC, dI) vwCl [(a_o, .inr (5, [.int o_thrown, .long o_trace, .ref a_o_text, .int o_typed, .int o_next_25, .int o_token_26, .int o_place_27, .int o_value_28, .int o_fault_29, .ref a_o_need, .ref a_o_made, .ref a_o_skillTold, .ref a_o_placeTold, .ref a_o_skips, .ref a_o_wheelTold, .int o_trades, .int o_people, .int o_draftTrades, .int o_draftPeople, .int o_isShut, .ref a_o_tunes, .ref a_o_s, .ref a_o_spare, .ref a_o_kept, .ref a_o_isKept, .ref a_o_makes, .ref a_o_works, .ref a_o_order, .int o_falling])), (a_o_text, .inl (cI, 400, .inl o_text)), (a_o_wheelTold, .inl (cI, 12, .inl o_wheelTold))] H := hP
            have hD : va_D A [(a_o, .inr (5, [.int o_thrown, .long o_trace, .ref a_o_text, .int o_typed, .int o_next_25, .int o_token_26, .int o_place_27, .int o_value_28, .int o_fault_29, .ref a_o_need, .ref a_o_made, .ref a_o_skillTold, .ref a_o_placeTold, .ref a_o_skips, .ref a_o_wheelTold, .int o_trades, .int o_people, .int o_draftTrades, .int o_draftPeople, .int o_isShut, .ref a_o_tunes, .ref a_o_s, .ref a_o_spare, .ref a_o_kept, .ref a_o_isKept, .ref a_o_makes, .ref a_o_works, .ref a_o_order, .int o_falling])), (a_o_text, .inl (cI, 400, .inl o_text)), (a_o_wheelTold, .inl (cI, 12, .inl o_wheelTold))] := hD
            refine lv_istore_n (lv' := [(3, .int r_24), (0, .ref a_o), (1, .int l1), (2, .int l2)]) hx hb dX5_readsWheel_57 rfl hl (by decide) rfl (fun ls hl => ?_)
            refine lv_iload_n hx hb dX5_readsWheel_58 rfl (lv_at hl 2 rfl) ?_
            refine lv_iconst (v := (1 : Int32)) hx hb dX5_readsWheel_59 (by decide) ?_
            refine lv_iload_n hx hb dX5_readsWheel_60 rfl (lv_at hl 0 rfl) ?_
            refine lv_ishl hx hb dX5_readsWheel_61 ?_
            refine lv_ior hx hb dX5_readsWheel_62 ?_
            refine lv_istore_n (lv' := [(1, .int (l1 ||| ((1 : Int32) <<< (r_24 &&& 31)))), (3, .int r_24), (0, .ref a_o), (2, .int l2)]) hx hb dX5_readsWheel_63 rfl hl (by decide) rfl (fun ls hl => ?_)
            refine lv_aload_n hx hb dX5_readsWheel_64 rfl (lv_at hl 2 rfl) ?_
            obtain ⟨r_30, hc, hf⟩ := pb1 hf
            refine gCi (va_runV (As := []) (rest := []) hF (kX5_isWell l dC dI Z cC cI cZ cW a_o a_o_text a_o_need a_o_made a_o_skillTold a_o_placeTold a_o_skips a_o_wheelTold a_o_tunes a_o_s a_o_spare a_o_kept a_o_isKept a_o_makes a_o_works a_o_order _ o_thrown o_trace o_typed o_next_25 o_token_26 o_place_27 o_value_28 o_fault_29 o_trades o_people o_draftTrades o_draftPeople o_isShut o_falling  N r_30 hc) (cwV 0 hts gX5_readsWheel_X5_isWell rfl rfl rfl (by decide +kernel) ⟨Nat.le_of_ble_eq_true rfl, Nat.le_of_ble_eq_true rfl⟩) (gPV (wc := [(a_o, .inr (5, [.int o_thrown, .long o_trace, .ref a_o_text, .int o_typed, .int o_next_25, .int o_token_26, .int o_place_27, .int o_value_28, .int o_fault_29, .ref a_o_need, .ref a_o_made, .ref a_o_skillTold, .ref a_o_placeTold, .ref a_o_skips, .ref a_o_wheelTold, .int o_trades, .int o_people, .int o_draftTrades, .int o_draftPeople, .int o_isShut, .ref a_o_tunes, .ref a_o_s, .ref a_o_spare, .ref a_o_kept, .ref a_o_isKept, .ref a_o_makes, .ref a_o_works, .ref a_o_order, .int o_falling]))]) hK hN hA hS hP hD [0] rfl rfl (q0 := 0) (ci := 5) rfl rfl rfl) rfl rfl hl.1 rfl (lv_room (Nat.le_of_ble_eq_true rfl)) dX5_readsWheel_65 ⟨Nat.zero_le _, Nat.zero_le _⟩) hP hD hS hA [0] rfl rfl rfl (fun H locs hP hD hS => ?_)
            have hP : va_P (dC, dI) vwCl [(a_o, .inr (5, [.int o_thrown, .long o_trace, .ref a_o_text, .int o_typed, .int o_next_25, .int o_token_26, .int o_place_27, .int o_value_28, .int o_fault_29, .ref a_o_need, .ref a_o_made, .ref a_o_skillTold, .ref a_o_placeTold, .ref a_o_skips, .ref a_o_wheelTold, .int o_trades, .int o_people, .int o_draftTrades, .int o_draftPeople, .int o_isShut, .ref a_o_tunes, .ref a_o_s, .ref a_o_spare, .ref a_o_kept, .ref a_o_isKept, .ref a_o_makes, .ref a_o_works, .ref a_o_order, .int o_falling])), (a_o_text, .inl (cI, 400, .inl o_text)), (a_o_wheelTold, .inl (cI, 12, .inl o_wheelTold))] H := hP
            have hD : va_D A [(a_o, .inr (5, [.int o_thrown, .long o_trace, .ref a_o_text, .int o_typed, .int o_next_25, .int o_token_26, .int o_place_27, .int o_value_28, .int o_fault_29, .ref a_o_need, .ref a_o_made, .ref a_o_skillTold, .ref a_o_placeTold, .ref a_o_skips, .ref a_o_wheelTold, .int o_trades, .int o_people, .int o_draftTrades, .int o_draftPeople, .int o_isShut, .ref a_o_tunes, .ref a_o_s, .ref a_o_spare, .ref a_o_kept, .ref a_o_isKept, .ref a_o_makes, .ref a_o_works, .ref a_o_order, .int o_falling])), (a_o_text, .inl (cI, 400, .inl o_text)), (a_o_wheelTold, .inl (cI, 12, .inl o_wheelTold))] := hD
            refine lv_if_eq (tgt := 81) hx hb dX5_readsWheel_68 (by decide) (fun c_31 => ?_) (fun c_31 => ?_)
            · have hf := pit hf c_31
              refine lv_iinc (v := (l2 + 1)) (lv' := [(2, .int (l2 + 1)), (1, .int (l1 ||| ((1 : Int32) <<< (r_24 &&& 31)))), (3, .int r_24), (0, .ref a_o)]) hx hb dX5_readsWheel_81 hl (k := 3) rfl rfl (by decide) rfl (fun ls hl => ?_)
              refine lv_goto (tgt := 4) hx hb dX5_readsWheel_84 (by decide) ?_
              exact ih _ _ _ _ _ _ _ _ _ _ _ _ _ _ _ _ hf _ _ _ hP hD hS (lv_sub hl [3, 1, 0] rfl) kx
            · have hf := pif hf c_31
              refine lv_aload_n hx hb dX5_readsWheel_71 rfl (lv_at hl 2 rfl) ?_
              refine va_get (D := (dC, dI)) (ci := 5) (v := .ref a_o_wheelTold) (C := RX5) (T := TX5) (N := 29) hx hb hts uX5_readsWheel_X5 hown hK hP 0 rfl rfl 14 (by decide) (hts _ mX5_readsWheel_2) (fun _ h9 => h9) rfl dX5_readsWheel_72 ?_
              refine lv_bipush (v := (6 : Int32)) hx hb dX5_readsWheel_75 (by decide) ?_
              refine lv_iload_n hx hb dX5_readsWheel_77 rfl (lv_at hl 3 rfl) ?_
              refine lv_iadd hx hb dX5_readsWheel_78 ?_
              refine lv_iload_n hx hb dX5_readsWheel_79 rfl (lv_at hl 1 rfl) ?_
              obtain ⟨h_32, hf⟩ := pgd hf
              refine va_iast hx hb hK hP hD hS 2 1 rfl rfl h_32 dX5_readsWheel_80 (fun H locs hP hD hS => ?_)
              have hP : va_P (dC, dI) vwCl [(a_o, .inr (5, [.int o_thrown, .long o_trace, .ref a_o_text, .int o_typed, .int o_next_25, .int o_token_26, .int o_place_27, .int o_value_28, .int o_fault_29, .ref a_o_need, .ref a_o_made, .ref a_o_skillTold, .ref a_o_placeTold, .ref a_o_skips, .ref a_o_wheelTold, .int o_trades, .int o_people, .int o_draftTrades, .int o_draftPeople, .int o_isShut, .ref a_o_tunes, .ref a_o_s, .ref a_o_spare, .ref a_o_kept, .ref a_o_isKept, .ref a_o_makes, .ref a_o_works, .ref a_o_order, .int o_falling])), (a_o_text, .inl (cI, 400, .inl o_text)), (a_o_wheelTold, .inl (cI, 12, .inl (upd o_wheelTold ((6 : Int32) + l2).toNatClampNeg r_24)))] H := hP
              have hD : va_D A [(a_o, .inr (5, [.int o_thrown, .long o_trace, .ref a_o_text, .int o_typed, .int o_next_25, .int o_token_26, .int o_place_27, .int o_value_28, .int o_fault_29, .ref a_o_need, .ref a_o_made, .ref a_o_skillTold, .ref a_o_placeTold, .ref a_o_skips, .ref a_o_wheelTold, .int o_trades, .int o_people, .int o_draftTrades, .int o_draftPeople, .int o_isShut, .ref a_o_tunes, .ref a_o_s, .ref a_o_spare, .ref a_o_kept, .ref a_o_isKept, .ref a_o_makes, .ref a_o_works, .ref a_o_order, .int o_falling])), (a_o_text, .inl (cI, 400, .inl o_text)), (a_o_wheelTold, .inl (cI, 12, .inl (upd o_wheelTold ((6 : Int32) + l2).toNatClampNeg r_24)))] := hD
              refine lv_iinc (v := (l2 + 1)) (lv' := [(2, .int (l2 + 1)), (1, .int (l1 ||| ((1 : Int32) <<< (r_24 &&& 31)))), (3, .int r_24), (0, .ref a_o)]) hx hb dX5_readsWheel_81 hl (k := 3) rfl rfl (by decide) rfl (fun ls hl => ?_)
              refine lv_goto (tgt := 4) hx hb dX5_readsWheel_84 (by decide) ?_
              exact ih _ _ _ _ _ _ _ _ _ _ _ _ _ _ _ _ hf _ _ _ hP hD hS (lv_sub hl [3, 1, 0] rfl) kx
          · have hf := pit hf c_23
            refine lv_iconst (v := (1 : Int32)) hx hb dX5_readsWheel_49 (by decide) ?_
            refine lv_goto (tgt := 54) hx hb dX5_readsWheel_50 (by decide) ?_
            obtain ⟨r_33, o_next_34, o_token_35, o_place_36, o_value_37, o_fault_38, hc, hf⟩ := pb6 hf
            refine gCi (va_runV (As := [.int (1 : Int32)]) (rest := []) hF (kX5_takes l dC dI Z cC cI cZ cW a_o a_o_text a_o_need a_o_made a_o_skillTold a_o_placeTold a_o_skips a_o_wheelTold a_o_tunes a_o_s a_o_spare a_o_kept a_o_isKept a_o_makes a_o_works a_o_order _ o_thrown o_trace o_typed o_next o_token o_place o_value o_fault o_trades o_people o_draftTrades o_draftPeople o_isShut o_falling o_text (1 : Int32) N r_33 o_next_34 o_token_35 o_place_36 o_value_37 o_fault_38 hc) (cwV 1 hts gX5_readsWheel_X5_takes rfl rfl rfl (by decide +kernel) ⟨Nat.le_of_ble_eq_true rfl, Nat.le_of_ble_eq_true rfl⟩) (gPV (wc := [(a_o, .inr (5, [.int o_thrown, .long o_trace, .ref a_o_text, .int o_typed, .int o_next, .int o_token, .int o_place, .int o_value, .int o_fault, .ref a_o_need, .ref a_o_made, .ref a_o_skillTold, .ref a_o_placeTold, .ref a_o_skips, .ref a_o_wheelTold, .int o_trades, .int o_people, .int o_draftTrades, .int o_draftPeople, .int o_isShut, .ref a_o_tunes, .ref a_o_s, .ref a_o_spare, .ref a_o_kept, .ref a_o_isKept, .ref a_o_makes, .ref a_o_works, .ref a_o_order, .int o_falling])), (a_o_text, .inl (cI, 400, .inl o_text))]) hK hN hA hS hP hD [0, 1] rfl rfl (q0 := 0) (ci := 5) rfl rfl rfl) rfl rfl hl.1 rfl (lv_room (Nat.le_of_ble_eq_true rfl)) dX5_readsWheel_54 ⟨Nat.zero_le _, Nat.zero_le _⟩) hP hD hS hA [0, 1] rfl rfl rfl (fun H locs hP hD hS => ?_)
            have hP : va_P (dC, dI) vwCl [(a_o, .inr (5, [.int o_thrown, .long o_trace, .ref a_o_text, .int o_typed, .int o_next_34, .int o_token_35, .int o_place_36, .int o_value_37, .int o_fault_38, .ref a_o_need, .ref a_o_made, .ref a_o_skillTold, .ref a_o_placeTold, .ref a_o_skips, .ref a_o_wheelTold, .int o_trades, .int o_people, .int o_draftTrades, .int o_draftPeople, .int o_isShut, .ref a_o_tunes, .ref a_o_s, .ref a_o_spare, .ref a_o_kept, .ref a_o_isKept, .ref a_o_makes, .ref a_o_works, .ref a_o_order, .int o_falling])), (a_o_text, .inl (cI, 400, .inl o_text)), (a_o_wheelTold, .inl (cI, 12, .inl o_wheelTold))] H := hP
            have hD : va_D A [(a_o, .inr (5, [.int o_thrown, .long o_trace, .ref a_o_text, .int o_typed, .int o_next_34, .int o_token_35, .int o_place_36, .int o_value_37, .int o_fault_38, .ref a_o_need, .ref a_o_made, .ref a_o_skillTold, .ref a_o_placeTold, .ref a_o_skips, .ref a_o_wheelTold, .int o_trades, .int o_people, .int o_draftTrades, .int o_draftPeople, .int o_isShut, .ref a_o_tunes, .ref a_o_s, .ref a_o_spare, .ref a_o_kept, .ref a_o_isKept, .ref a_o_makes, .ref a_o_works, .ref a_o_order, .int o_falling])), (a_o_text, .inl (cI, 400, .inl o_text)), (a_o_wheelTold, .inl (cI, 12, .inl o_wheelTold))] := hD
            refine lv_istore_n (lv' := [(3, .int r_33), (0, .ref a_o), (1, .int l1), (2, .int l2)]) hx hb dX5_readsWheel_57 rfl hl (by decide) rfl (fun ls hl => ?_)
            refine lv_iload_n hx hb dX5_readsWheel_58 rfl (lv_at hl 2 rfl) ?_
            refine lv_iconst (v := (1 : Int32)) hx hb dX5_readsWheel_59 (by decide) ?_
            refine lv_iload_n hx hb dX5_readsWheel_60 rfl (lv_at hl 0 rfl) ?_
            refine lv_ishl hx hb dX5_readsWheel_61 ?_
            refine lv_ior hx hb dX5_readsWheel_62 ?_
            refine lv_istore_n (lv' := [(1, .int (l1 ||| ((1 : Int32) <<< (r_33 &&& 31)))), (3, .int r_33), (0, .ref a_o), (2, .int l2)]) hx hb dX5_readsWheel_63 rfl hl (by decide) rfl (fun ls hl => ?_)
            refine lv_aload_n hx hb dX5_readsWheel_64 rfl (lv_at hl 2 rfl) ?_
            obtain ⟨r_39, hc, hf⟩ := pb1 hf
            refine gCi (va_runV (As := []) (rest := []) hF (kX5_isWell l dC dI Z cC cI cZ cW a_o a_o_text a_o_need a_o_made a_o_skillTold a_o_placeTold a_o_skips a_o_wheelTold a_o_tunes a_o_s a_o_spare a_o_kept a_o_isKept a_o_makes a_o_works a_o_order _ o_thrown o_trace o_typed o_next_34 o_token_35 o_place_36 o_value_37 o_fault_38 o_trades o_people o_draftTrades o_draftPeople o_isShut o_falling  N r_39 hc) (cwV 0 hts gX5_readsWheel_X5_isWell rfl rfl rfl (by decide +kernel) ⟨Nat.le_of_ble_eq_true rfl, Nat.le_of_ble_eq_true rfl⟩) (gPV (wc := [(a_o, .inr (5, [.int o_thrown, .long o_trace, .ref a_o_text, .int o_typed, .int o_next_34, .int o_token_35, .int o_place_36, .int o_value_37, .int o_fault_38, .ref a_o_need, .ref a_o_made, .ref a_o_skillTold, .ref a_o_placeTold, .ref a_o_skips, .ref a_o_wheelTold, .int o_trades, .int o_people, .int o_draftTrades, .int o_draftPeople, .int o_isShut, .ref a_o_tunes, .ref a_o_s, .ref a_o_spare, .ref a_o_kept, .ref a_o_isKept, .ref a_o_makes, .ref a_o_works, .ref a_o_order, .int o_falling]))]) hK hN hA hS hP hD [0] rfl rfl (q0 := 0) (ci := 5) rfl rfl rfl) rfl rfl hl.1 rfl (lv_room (Nat.le_of_ble_eq_true rfl)) dX5_readsWheel_65 ⟨Nat.zero_le _, Nat.zero_le _⟩) hP hD hS hA [0] rfl rfl rfl (fun H locs hP hD hS => ?_)
            have hP : va_P (dC, dI) vwCl [(a_o, .inr (5, [.int o_thrown, .long o_trace, .ref a_o_text, .int o_typed, .int o_next_34, .int o_token_35, .int o_place_36, .int o_value_37, .int o_fault_38, .ref a_o_need, .ref a_o_made, .ref a_o_skillTold, .ref a_o_placeTold, .ref a_o_skips, .ref a_o_wheelTold, .int o_trades, .int o_people, .int o_draftTrades, .int o_draftPeople, .int o_isShut, .ref a_o_tunes, .ref a_o_s, .ref a_o_spare, .ref a_o_kept, .ref a_o_isKept, .ref a_o_makes, .ref a_o_works, .ref a_o_order, .int o_falling])), (a_o_text, .inl (cI, 400, .inl o_text)), (a_o_wheelTold, .inl (cI, 12, .inl o_wheelTold))] H := hP
            have hD : va_D A [(a_o, .inr (5, [.int o_thrown, .long o_trace, .ref a_o_text, .int o_typed, .int o_next_34, .int o_token_35, .int o_place_36, .int o_value_37, .int o_fault_38, .ref a_o_need, .ref a_o_made, .ref a_o_skillTold, .ref a_o_placeTold, .ref a_o_skips, .ref a_o_wheelTold, .int o_trades, .int o_people, .int o_draftTrades, .int o_draftPeople, .int o_isShut, .ref a_o_tunes, .ref a_o_s, .ref a_o_spare, .ref a_o_kept, .ref a_o_isKept, .ref a_o_makes, .ref a_o_works, .ref a_o_order, .int o_falling])), (a_o_text, .inl (cI, 400, .inl o_text)), (a_o_wheelTold, .inl (cI, 12, .inl o_wheelTold))] := hD
            refine lv_if_eq (tgt := 81) hx hb dX5_readsWheel_68 (by decide) (fun c_40 => ?_) (fun c_40 => ?_)
            · have hf := pit hf c_40
              refine lv_iinc (v := (l2 + 1)) (lv' := [(2, .int (l2 + 1)), (1, .int (l1 ||| ((1 : Int32) <<< (r_33 &&& 31)))), (3, .int r_33), (0, .ref a_o)]) hx hb dX5_readsWheel_81 hl (k := 3) rfl rfl (by decide) rfl (fun ls hl => ?_)
              refine lv_goto (tgt := 4) hx hb dX5_readsWheel_84 (by decide) ?_
              exact ih _ _ _ _ _ _ _ _ _ _ _ _ _ _ _ _ hf _ _ _ hP hD hS (lv_sub hl [3, 1, 0] rfl) kx
            · have hf := pif hf c_40
              refine lv_aload_n hx hb dX5_readsWheel_71 rfl (lv_at hl 2 rfl) ?_
              refine va_get (D := (dC, dI)) (ci := 5) (v := .ref a_o_wheelTold) (C := RX5) (T := TX5) (N := 29) hx hb hts uX5_readsWheel_X5 hown hK hP 0 rfl rfl 14 (by decide) (hts _ mX5_readsWheel_2) (fun _ h9 => h9) rfl dX5_readsWheel_72 ?_
              refine lv_bipush (v := (6 : Int32)) hx hb dX5_readsWheel_75 (by decide) ?_
              refine lv_iload_n hx hb dX5_readsWheel_77 rfl (lv_at hl 3 rfl) ?_
              refine lv_iadd hx hb dX5_readsWheel_78 ?_
              refine lv_iload_n hx hb dX5_readsWheel_79 rfl (lv_at hl 1 rfl) ?_
              obtain ⟨h_41, hf⟩ := pgd hf
              refine va_iast hx hb hK hP hD hS 2 1 rfl rfl h_41 dX5_readsWheel_80 (fun H locs hP hD hS => ?_)
              have hP : va_P (dC, dI) vwCl [(a_o, .inr (5, [.int o_thrown, .long o_trace, .ref a_o_text, .int o_typed, .int o_next_34, .int o_token_35, .int o_place_36, .int o_value_37, .int o_fault_38, .ref a_o_need, .ref a_o_made, .ref a_o_skillTold, .ref a_o_placeTold, .ref a_o_skips, .ref a_o_wheelTold, .int o_trades, .int o_people, .int o_draftTrades, .int o_draftPeople, .int o_isShut, .ref a_o_tunes, .ref a_o_s, .ref a_o_spare, .ref a_o_kept, .ref a_o_isKept, .ref a_o_makes, .ref a_o_works, .ref a_o_order, .int o_falling])), (a_o_text, .inl (cI, 400, .inl o_text)), (a_o_wheelTold, .inl (cI, 12, .inl (upd o_wheelTold ((6 : Int32) + l2).toNatClampNeg r_33)))] H := hP
              have hD : va_D A [(a_o, .inr (5, [.int o_thrown, .long o_trace, .ref a_o_text, .int o_typed, .int o_next_34, .int o_token_35, .int o_place_36, .int o_value_37, .int o_fault_38, .ref a_o_need, .ref a_o_made, .ref a_o_skillTold, .ref a_o_placeTold, .ref a_o_skips, .ref a_o_wheelTold, .int o_trades, .int o_people, .int o_draftTrades, .int o_draftPeople, .int o_isShut, .ref a_o_tunes, .ref a_o_s, .ref a_o_spare, .ref a_o_kept, .ref a_o_isKept, .ref a_o_makes, .ref a_o_works, .ref a_o_order, .int o_falling])), (a_o_text, .inl (cI, 400, .inl o_text)), (a_o_wheelTold, .inl (cI, 12, .inl (upd o_wheelTold ((6 : Int32) + l2).toNatClampNeg r_33)))] := hD
              refine lv_iinc (v := (l2 + 1)) (lv' := [(2, .int (l2 + 1)), (1, .int (l1 ||| ((1 : Int32) <<< (r_33 &&& 31)))), (3, .int r_33), (0, .ref a_o)]) hx hb dX5_readsWheel_81 hl (k := 3) rfl rfl (by decide) rfl (fun ls hl => ?_)
              refine lv_goto (tgt := 4) hx hb dX5_readsWheel_84 (by decide) ?_
              exact ih _ _ _ _ _ _ _ _ _ _ _ _ _ _ _ _ hf _ _ _ hP hD hS (lv_sub hl [3, 1, 0] rfl) kx
set_option maxHeartbeats 4000000 in
set_option maxRecDepth 100000 in
theorem kX5_readsWheel (l : Launch) (dC : Nat → ClassId) (dI : Nat → Nat → Nat) (Z : gZ) (cC cI cZ cW : ClassId) (a_o a_o_text a_o_need a_o_made a_o_skillTold a_o_placeTold a_o_skips a_o_wheelTold a_o_tunes a_o_s a_o_spare a_o_kept a_o_isKept a_o_makes a_o_works a_o_order : Nat) (sz : Nat) (o_thrown : Int32) (o_trace : Int64) (o_typed : Int32) (o_next : Int32) (o_token : Int32) (o_place : Int32) (o_value : Int32) (o_fault : Int32) (o_trades : Int32) (o_people : Int32) (o_draftTrades : Int32) (o_draftPeople : Int32) (o_isShut : Int32) (o_falling : Int32) (o_text : Nat → Int32) (o_wheelTold : Nat → Int32)  (N : Nat) (o_next' : Int32) (o_token' : Int32) (o_place' : Int32) (o_value' : Int32) (o_fault' : Int32) (o_wheelTold' : Nat → Int32) (hf : fX5_readsWheel N o_typed o_next o_token o_place o_value o_fault o_draftTrades o_text o_wheelTold   = some (o_next', o_token', o_place', o_value', o_fault', o_wheelTold')) : Met l yX5_readsWheel wsX5_readsWheel rmX5_readsWheel (va_Pc [.ref a_o] (gB (dC, dI) Z [(cC, .char), (cI, .int), (cZ, .boolean), (cW, .object RX3)] [(a_o, .inr (5, [.int o_thrown, .long o_trace, .ref a_o_text, .int o_typed, .int o_next, .int o_token, .int o_place, .int o_value, .int o_fault, .ref a_o_need, .ref a_o_made, .ref a_o_skillTold, .ref a_o_placeTold, .ref a_o_skips, .ref a_o_wheelTold, .int o_trades, .int o_people, .int o_draftTrades, .int o_draftPeople, .int o_isShut, .ref a_o_tunes, .ref a_o_s, .ref a_o_spare, .ref a_o_kept, .ref a_o_isKept, .ref a_o_makes, .ref a_o_works, .ref a_o_order, .int o_falling])), (a_o_text, .inl (cI, 400, .inl o_text)), (a_o_wheelTold, .inl (cI, 12, .inl o_wheelTold))] sz)) (va_Qv (fun (_ : Unit) => True) (gE (dC, dI) [(a_o, .inr (5, [.int o_thrown, .long o_trace, .ref a_o_text, .int o_typed, .int o_next', .int o_token', .int o_place', .int o_value', .int o_fault', .ref a_o_need, .ref a_o_made, .ref a_o_skillTold, .ref a_o_placeTold, .ref a_o_skips, .ref a_o_wheelTold, .int o_trades, .int o_people, .int o_draftTrades, .int o_draftPeople, .int o_isShut, .ref a_o_tunes, .ref a_o_s, .ref a_o_spare, .ref a_o_kept, .ref a_o_isKept, .ref a_o_makes, .ref a_o_works, .ref a_o_order, .int o_falling])), (a_o_text, .inl (cI, 400, .inl o_text)), (a_o_wheelTold, .inl (cI, 12, .inl o_wheelTold'))]) (va_A [(a_o, .inr (5, [.int o_thrown, .long o_trace, .ref a_o_text, .int o_typed, .int o_next, .int o_token, .int o_place, .int o_value, .int o_fault, .ref a_o_need, .ref a_o_made, .ref a_o_skillTold, .ref a_o_placeTold, .ref a_o_skips, .ref a_o_wheelTold, .int o_trades, .int o_people, .int o_draftTrades, .int o_draftPeople, .int o_isShut, .ref a_o_tunes, .ref a_o_s, .ref a_o_spare, .ref a_o_kept, .ref a_o_isKept, .ref a_o_makes, .ref a_o_works, .ref a_o_order, .int o_falling])), (a_o_text, .inl (cI, 400, .inl o_text)), (a_o_wheelTold, .inl (cI, 12, .inl o_wheelTold))] sz)) 0 0 (va_A [(a_o, .inr (5, [.int o_thrown, .long o_trace, .ref a_o_text, .int o_typed, .int o_next, .int o_token, .int o_place, .int o_value, .int o_fault, .ref a_o_need, .ref a_o_made, .ref a_o_skillTold, .ref a_o_placeTold, .ref a_o_skips, .ref a_o_wheelTold, .int o_trades, .int o_people, .int o_draftTrades, .int o_draftPeople, .int o_isShut, .ref a_o_tunes, .ref a_o_s, .ref a_o_spare, .ref a_o_kept, .ref a_o_isKept, .ref a_o_makes, .ref a_o_works, .ref a_o_order, .int o_falling])), (a_o_text, .inl (cI, 400, .inl o_text)), (a_o_wheelTold, .inl (cI, 12, .inl o_wheelTold))] sz) := by
  refine gMet (cc := cX5_readsWheel) (maxL := 4) (ret := none) (Qc := fun A => va_Qv (fun (_ : Unit) => True) (gE (dC, dI) [(a_o, .inr (5, [.int o_thrown, .long o_trace, .ref a_o_text, .int o_typed, .int o_next', .int o_token', .int o_place', .int o_value', .int o_fault', .ref a_o_need, .ref a_o_made, .ref a_o_skillTold, .ref a_o_placeTold, .ref a_o_skips, .ref a_o_wheelTold, .int o_trades, .int o_people, .int o_draftTrades, .int o_draftPeople, .int o_isShut, .ref a_o_tunes, .ref a_o_s, .ref a_o_spare, .ref a_o_kept, .ref a_o_isKept, .ref a_o_makes, .ref a_o_works, .ref a_o_order, .int o_falling])), (a_o_text, .inl (cI, 400, .inl o_text)), (a_o_wheelTold, .inl (cI, 12, .inl o_wheelTold'))]) A) (by decide) rfl (Nat.le_of_ble_eq_true rfl) ?_
  intro p e s m below meth c A ls hg0 _ hsz hP hD hS hl
  have hg0 : gX p s m _ meth c cX5_readsWheel 4 none wsX5_readsWheel RX5 (dC, dI) Z [(cC, .char), (cI, .int), (cZ, .boolean), (cW, .object RX3)] A := hg0
  obtain ⟨hx, hb, hr, hml, hown, hts, hlocks, hA, hK, hN⟩ := id hg0
  subst hsz
  have hF : CallFix p m c cX5_readsWheel 4 s _ wsX5_readsWheel RX5 := ⟨hx, hb, hml, hown, hts⟩
  have hl : lv_has ls 4 [(0, .ref a_o)] := hl
  unfold fX5_readsWheel at hf
  refine lv_iconst (v := (0 : Int32)) hx hb dX5_readsWheel_0 (by decide) ?_
  refine lv_istore_n (lv' := [(1, .int (0 : Int32)), (0, .ref a_o)]) hx hb dX5_readsWheel_1 rfl hl (by decide) rfl (fun ls hl => ?_)
  refine lv_iconst (v := (0 : Int32)) hx hb dX5_readsWheel_2 (by decide) ?_
  refine lv_istore_n (lv' := [(2, .int (0 : Int32)), (1, .int (0 : Int32)), (0, .ref a_o)]) hx hb dX5_readsWheel_3 rfl hl (by decide) rfl (fun ls hl => ?_)
  obtain ⟨o_next_1, o_token_2, o_place_3, o_value_4, o_fault_5, o_wheelTold_6, l1_7, l2_8, hc, hf⟩ := pb8 hf
  refine wX5_readsWheel_4 hg0 a_o a_o_text a_o_need a_o_made a_o_skillTold a_o_placeTold a_o_skips a_o_wheelTold a_o_tunes a_o_s a_o_spare a_o_kept a_o_isKept a_o_makes a_o_works a_o_order o_thrown o_trace o_typed o_trades o_people o_draftTrades o_draftPeople o_isShut o_falling o_text  N N o_next o_token o_place o_value o_fault o_wheelTold (0 : Int32) (0 : Int32) o_next_1 o_token_2 o_place_3 o_value_4 o_fault_5 o_wheelTold_6 l1_7 l2_8 hc _ _ _ hP hD hS (lv_sub hl [2, 1, 0] rfl) (fun H locs ls hP hD hS hl => ?_)
  have q0 := Option.some.inj hf
  obtain ⟨e0, q1⟩ := Prod.mk.inj q0
  obtain ⟨e1, q2⟩ := Prod.mk.inj q1
  obtain ⟨e2, q3⟩ := Prod.mk.inj q2
  obtain ⟨e3, q4⟩ := Prod.mk.inj q3
  obtain ⟨e4, q5⟩ := Prod.mk.inj q4
  subst e0
  subst e1
  subst e2
  subst e3
  subst e4
  subst q5
  exact gRv hx hb hr hlocks hP hS dX5_readsWheel_87
