abbrev rmX5_in : Room := { frames := 0, cells := 0, slots := 0, locals := 0 }
set_option maxHeartbeats 4000000 in
set_option maxRecDepth 100000 in
theorem kX5_in (l : Launch) (dC : Nat → ClassId) (dI : Nat → Nat → Nat) (Z : gZ) (cC cI cZ cW : ClassId)  (sz : Nat)  (i0 : Int32) (i1 : Int32) (i2 : Int32) (N : Nat) (r' : Int32) (hf : fX5_in N   i0 i1 i2 = some r') : Met l yX5_in wsX5_in rmX5_in (va_Pc [.int i0, .int i1, .int i2] (gB (dC, dI) Z [(cC, .char), (cI, .int), (cZ, .boolean), (cW, .object RX3)] [] sz)) (va_Qi (fun (r : Int32) (_ : Unit) => r = r') (gE (dC, dI) []) (va_A [] sz)) 0 0 (va_A [] sz) := by
  refine gMet (cc := cX5_in) (maxL := 3) (ret := (some .boolean)) (Qc := fun A => va_Qi (fun (r : Int32) (_ : Unit) => r = r') (gE (dC, dI) []) A) (by decide) rfl (Nat.le_of_ble_eq_true rfl) ?_
  intro p e s m below meth c A ls hg0 _ hsz hP hD hS hl
  have hg0 : gX p s m _ meth c cX5_in 3 (some .boolean) wsX5_in RX5 (dC, dI) Z [(cC, .char), (cI, .int), (cZ, .boolean), (cW, .object RX3)] A := hg0
  obtain ⟨hx, hb, hr, hml, hown, hts, hlocks, hA, hK, hN⟩ := id hg0
  subst hsz
  have hF : CallFix p m c cX5_in 3 s _ wsX5_in RX5 := ⟨hx, hb, hml, hown, hts⟩
  have hl : lv_has ls 3 [(0, .int i0), (1, .int i1), (2, .int i2)] := hl
  unfold fX5_in at hf
  refine lv_iload_n hx hb dX5_in_0 rfl (lv_at hl 0 rfl) ?_
  refine lv_iload_n hx hb dX5_in_1 rfl (lv_at hl 1 rfl) ?_
  refine lv_icmp_lt (tgt := 14) hx hb dX5_in_2 (by decide) (fun c_1 => ?_) (fun c_1 => ?_)
  · have hf := pit hf c_1
    refine lv_iconst (v := (0 : Int32)) hx hb dX5_in_14 (by decide) ?_
    have q0 := Option.some.inj hf
    subst q0
    exact gRz hx hb hr rfl hlocks hP hS dX5_in_15
  · have hf := pif hf c_1
    refine lv_iload_n hx hb dX5_in_5 rfl (lv_at hl 0 rfl) ?_
    refine lv_iload_n hx hb dX5_in_6 rfl (lv_at hl 2 rfl) ?_
    refine lv_icmp_gt (tgt := 14) hx hb dX5_in_7 (by decide) (fun c_2 => ?_) (fun c_2 => ?_)
    · have hf := pit hf c_2
      refine lv_iconst (v := (0 : Int32)) hx hb dX5_in_14 (by decide) ?_
      have q0 := Option.some.inj hf
      subst q0
      exact gRz hx hb hr rfl hlocks hP hS dX5_in_15
    · have hf := pif hf c_2
      refine lv_iconst (v := (1 : Int32)) hx hb dX5_in_10 (by decide) ?_
      refine lv_goto (tgt := 15) hx hb dX5_in_11 (by decide) ?_
      have q0 := Option.some.inj hf
      subst q0
      exact gRz hx hb hr rfl hlocks hP hS dX5_in_15
abbrev rmX5_type : Room := { frames := 1, cells := 0, slots := 0, locals := 22 }
set_option maxRecDepth 20000 in
theorem uX5_type_X5 : ∀ w ∈ wsX50, w ∈ wsX5_type := by decide +kernel
set_option maxRecDepth 20000 in
theorem mX5_type_0 : (Cond.fieldLink RX5 59 "TradeWheelModel" "thrown" "I" : Cond) ∈ wsX5_type := by decide +kernel
set_option maxRecDepth 20000 in
theorem mX5_type_1 : (Cond.fieldLink RX5 67 "TradeWheelModel" "typed" "I" : Cond) ∈ wsX5_type := by decide +kernel
set_option maxRecDepth 20000 in
theorem mX5_type_2 : (Cond.fieldLink RX5 7 "TradeWheelModel" "text" "[I" : Cond) ∈ wsX5_type := by decide +kernel
set_option maxRecDepth 20000 in
theorem mX5_type_3 : (Cond.constantLong RX5 70 (255) : Cond) ∈ wsX5_type := by decide +kernel
set_option maxHeartbeats 4000000 in
set_option maxRecDepth 100000 in
theorem wX5_type_37 {p : Program} {l : Launch} {e : Env} {s : State} {m : MethodId} {args : Array Value} {below : List Frame} {meth : Method} {c : Code} {Q : State → Prop} {A : Nat → Prop} {dC : Nat → ClassId} {dI : Nat → Nat → Nat} {Z : gZ} {cC cI cZ cW : ClassId} (hg0 : gX p s m args meth c cX5_type 5 (some .int) wsX5_type RX5 (dC, dI) Z [(cC, .char), (cI, .int), (cZ, .boolean), (cW, .object RX3)] A) (a_o a_o_text a_o_need a_o_made a_o_skillTold a_o_placeTold a_o_skips a_o_wheelTold a_o_tunes a_o_s a_o_spare a_o_kept a_o_isKept a_o_makes a_o_works a_o_order : Nat) (o_thrown : Int32) (o_trace : Int64) (o_next : Int32) (o_token : Int32) (o_place : Int32) (o_value : Int32) (o_fault : Int32) (o_trades : Int32) (o_people : Int32) (o_draftTrades : Int32) (o_draftPeople : Int32) (o_isShut : Int32) (o_falling : Int32) (l1 : Int64) (N : Nat) : ∀ (n : Nat) (o_typed : Int32) (o_text : Nat → Int32) (l4 : Int32) (o_typed' : Int32) (o_text' : Nat → Int32) (l4' : Int32), fX5_type_37 N l1 n o_typed o_text l4 = some (o_typed', o_text', l4') → ∀ (H : Heap) (locs : List Loc) (ls : Array Slot), va_P (dC, dI) vwCl [(a_o, .inr (5, [.int o_thrown, .long o_trace, .ref a_o_text, .int o_typed, .int o_next, .int o_token, .int o_place, .int o_value, .int o_fault, .ref a_o_need, .ref a_o_made, .ref a_o_skillTold, .ref a_o_placeTold, .ref a_o_skips, .ref a_o_wheelTold, .int o_trades, .int o_people, .int o_draftTrades, .int o_draftPeople, .int o_isShut, .ref a_o_tunes, .ref a_o_s, .ref a_o_spare, .ref a_o_kept, .ref a_o_isKept, .ref a_o_makes, .ref a_o_works, .ref a_o_order, .int o_falling])), (a_o_text, .inl (cI, 400, .inl o_text))] H → va_D A [(a_o, .inr (5, [.int o_thrown, .long o_trace, .ref a_o_text, .int o_typed, .int o_next, .int o_token, .int o_place, .int o_value, .int o_fault, .ref a_o_need, .ref a_o_made, .ref a_o_skillTold, .ref a_o_placeTold, .ref a_o_skips, .ref a_o_wheelTold, .int o_trades, .int o_people, .int o_draftTrades, .int o_draftPeople, .int o_isShut, .ref a_o_tunes, .ref a_o_s, .ref a_o_spare, .ref a_o_kept, .ref a_o_isKept, .ref a_o_makes, .ref a_o_works, .ref a_o_order, .int o_falling])), (a_o_text, .inl (cI, 400, .inl o_text))] → va_S A s.heap H locs → lv_has ls 5 [(0, .ref a_o), (1, .long l1), (4, .int l4)] → (∀ (H : Heap) (locs : List Loc) (ls : Array Slot), va_P (dC, dI) vwCl [(a_o, .inr (5, [.int o_thrown, .long o_trace, .ref a_o_text, .int o_typed', .int o_next, .int o_token, .int o_place, .int o_value, .int o_fault, .ref a_o_need, .ref a_o_made, .ref a_o_skillTold, .ref a_o_placeTold, .ref a_o_skips, .ref a_o_wheelTold, .int o_trades, .int o_people, .int o_draftTrades, .int o_draftPeople, .int o_isShut, .ref a_o_tunes, .ref a_o_s, .ref a_o_spare, .ref a_o_kept, .ref a_o_isKept, .ref a_o_makes, .ref a_o_works, .ref a_o_order, .int o_falling])), (a_o_text, .inl (cI, 400, .inl o_text'))] H → va_D A [(a_o, .inr (5, [.int o_thrown, .long o_trace, .ref a_o_text, .int o_typed', .int o_next, .int o_token, .int o_place, .int o_value, .int o_fault, .ref a_o_need, .ref a_o_made, .ref a_o_skillTold, .ref a_o_placeTold, .ref a_o_skips, .ref a_o_wheelTold, .int o_trades, .int o_people, .int o_draftTrades, .int o_draftPeople, .int o_isShut, .ref a_o_tunes, .ref a_o_s, .ref a_o_spare, .ref a_o_kept, .ref a_o_isKept, .ref a_o_makes, .ref a_o_works, .ref a_o_order, .int o_falling])), (a_o_text, .inl (cI, 400, .inl o_text'))] → va_S A s.heap H locs → lv_has ls 5 [(0, .ref a_o)] → W p l e (headSpec wsX5_type rmX5_type).room s m args below meth c H locs 0 0 Q (F0 m 79 ls [])) → W p l e (headSpec wsX5_type rmX5_type).room s m args below meth c H locs 0 0 Q (F0 m 37 ls []) := by
  obtain ⟨hx, hb, hr, hml, hown, hts, hlocks, hA, hK, hN⟩ := id hg0
  have hF : CallFix p m c cX5_type 5 s args wsX5_type RX5 := ⟨hx, hb, hml, hown, hts⟩
  intro n
  induction n with
  | zero =>
    intro o_typed o_text l4 o_typed' o_text' l4' hf
    have hf := fX5_type_37_0.symm.trans hf
    cases hf
  | succ n ih =>
    intro o_typed o_text l4 o_typed' o_text' l4' hf H locs ls hP hD hS hl kx
    have hf := fX5_type_37_s.symm.trans hf
    refine lv_iload hx hb dX5_type_37 (lv_at hl 2 rfl) ?_
    refine lv_if_lt (tgt := 79) hx hb dX5_type_39 (by decide) (fun c_1 => ?_) (fun c_1 => ?_)
    · have hf := pit hf c_1
      have q0 := Option.some.inj hf
      obtain ⟨e0, q1⟩ := Prod.mk.inj q0
      obtain ⟨e1, q2⟩ := Prod.mk.inj q1
      subst e0
      subst e1
      subst q2
      exact kx _ _ _ hP hD hS (lv_sub hl [0] rfl)
    · have hf := pif hf c_1
      refine lv_aload_n hx hb dX5_type_42 rfl (lv_at hl 0 rfl) ?_
      refine va_get (D := (dC, dI)) (ci := 5) (v := .ref a_o_text) (C := RX5) (T := TX5) (N := 29) hx hb hts uX5_type_X5 hown hK hP 0 rfl rfl 2 (by decide) (hts _ mX5_type_2) (fun _ h9 => h9) rfl dX5_type_43 ?_
      refine lv_aload_n hx hb dX5_type_46 rfl (lv_at hl 0 rfl) ?_
      refine va_get (D := (dC, dI)) (ci := 5) (v := .int o_typed) (C := RX5) (T := TX5) (N := 29) hx hb hts uX5_type_X5 hown hK hP 0 rfl rfl 3 (by decide) (hts _ mX5_type_1) (fun _ h9 => h9) rfl dX5_type_47 ?_
      refine lv_lload_n hx hb dX5_type_50 rfl (lv_at hl 1 rfl) ?_
      refine lv_bipush (v := (8 : Int32)) hx hb dX5_type_51 (by decide) ?_
      refine lv_iload hx hb dX5_type_53 (lv_at hl 2 rfl) ?_
      refine lv_imul hx hb dX5_type_55 ?_
      refine lv_lshr (v := (l1 >>> (((8 : Int32) * l4).toInt64 &&& 63))) hx hb dX5_type_56 rfl ?_
      refine lv_ldc2 (v := (255 : Int64)) hx hb hown (hts _ mX5_type_3) dX5_type_57 ?_
      refine lv_land hx hb dX5_type_60 ?_
      refine lv_l2i (v := ((l1 >>> (((8 : Int32) * l4).toInt64 &&& 63)) &&& (255 : Int64)).toInt32) hx hb dX5_type_61 rfl ?_
      obtain ⟨h_2, hf⟩ := pgd hf
      refine va_iast hx hb hK hP hD hS 1 1 rfl rfl h_2 dX5_type_62 (fun H locs hP hD hS => ?_)
      have hP : va_P (dC, dI) vwCl [(a_o, .inr (5, [.int o_thrown, .long o_trace, .ref a_o_text, .int o_typed, .int o_next, .int o_token, .int o_place, .int o_value, .int o_fault, .ref a_o_need, .ref a_o_made, .ref a_o_skillTold, .ref a_o_placeTold, .ref a_o_skips, .ref a_o_wheelTold, .int o_trades, .int o_people, .int o_draftTrades, .int o_draftPeople, .int o_isShut, .ref a_o_tunes, .ref a_o_s, .ref a_o_spare, .ref a_o_kept, .ref a_o_isKept, .ref a_o_makes, .ref a_o_works, .ref a_o_order, .int o_falling])), (a_o_text, .inl (cI, 400, .inl (upd o_text o_typed.toNatClampNeg (((l1 >>> (((8 : Int32) * l4).toInt64 &&& 63)) &&& (255 : Int64)).toInt32))))] H := hP
      have hD : va_D A [(a_o, .inr (5, [.int o_thrown, .long o_trace, .ref a_o_text, .int o_typed, .int o_next, .int o_token, .int o_place, .int o_value, .int o_fault, .ref a_o_need, .ref a_o_made, .ref a_o_skillTold, .ref a_o_placeTold, .ref a_o_skips, .ref a_o_wheelTold, .int o_trades, .int o_people, .int o_draftTrades, .int o_draftPeople, .int o_isShut, .ref a_o_tunes, .ref a_o_s, .ref a_o_spare, .ref a_o_kept, .ref a_o_isKept, .ref a_o_makes, .ref a_o_works, .ref a_o_order, .int o_falling])), (a_o_text, .inl (cI, 400, .inl (upd o_text o_typed.toNatClampNeg (((l1 >>> (((8 : Int32) * l4).toInt64 &&& 63)) &&& (255 : Int64)).toInt32))))] := hD
      refine lv_aload_n hx hb dX5_type_63 rfl (lv_at hl 0 rfl) ?_
      refine lv_dup hx hb dX5_type_64 rfl ?_
      refine va_get (D := (dC, dI)) (ci := 5) (v := .int o_typed) (C := RX5) (T := TX5) (N := 29) hx hb hts uX5_type_X5 hown hK hP 0 rfl rfl 3 (by decide) (hts _ mX5_type_1) (fun _ h9 => h9) rfl dX5_type_65 ?_
      refine lv_iconst (v := (1 : Int32)) hx hb dX5_type_68 (by decide) ?_
      refine lv_iadd hx hb dX5_type_69 ?_
      refine va_put (D := (dC, dI)) (ci := 5) (v := .int (o_typed + (1 : Int32))) (ty := .int) (C := RX5) (T := TX5) (N := 29) hx hb hts uX5_type_X5 tyX5 tyX5_ok nmX5 hown hK hP hD hS 0 rfl rfl 3 (by decide) (hts _ mX5_type_1) (fun _ h9 => h9) rfl (by decide +kernel) rfl rfl (Nat.le_of_ble_eq_true rfl) dX5_type_70 (fun H locs hP hD hS => ?_)
      have hP : va_P (dC, dI) vwCl [(a_o, .inr (5, [.int o_thrown, .long o_trace, .ref a_o_text, .int (o_typed + (1 : Int32)), .int o_next, .int o_token, .int o_place, .int o_value, .int o_fault, .ref a_o_need, .ref a_o_made, .ref a_o_skillTold, .ref a_o_placeTold, .ref a_o_skips, .ref a_o_wheelTold, .int o_trades, .int o_people, .int o_draftTrades, .int o_draftPeople, .int o_isShut, .ref a_o_tunes, .ref a_o_s, .ref a_o_spare, .ref a_o_kept, .ref a_o_isKept, .ref a_o_makes, .ref a_o_works, .ref a_o_order, .int o_falling])), (a_o_text, .inl (cI, 400, .inl (upd o_text o_typed.toNatClampNeg (((l1 >>> (((8 : Int32) * l4).toInt64 &&& 63)) &&& (255 : Int64)).toInt32))))] H := hP
      have hD : va_D A [(a_o, .inr (5, [.int o_thrown, .long o_trace, .ref a_o_text, .int (o_typed + (1 : Int32)), .int o_next, .int o_token, .int o_place, .int o_value, .int o_fault, .ref a_o_need, .ref a_o_made, .ref a_o_skillTold, .ref a_o_placeTold, .ref a_o_skips, .ref a_o_wheelTold, .int o_trades, .int o_people, .int o_draftTrades, .int o_draftPeople, .int o_isShut, .ref a_o_tunes, .ref a_o_s, .ref a_o_spare, .ref a_o_kept, .ref a_o_isKept, .ref a_o_makes, .ref a_o_works, .ref a_o_order, .int o_falling])), (a_o_text, .inl (cI, 400, .inl (upd o_text o_typed.toNatClampNeg (((l1 >>> (((8 : Int32) * l4).toInt64 &&& 63)) &&& (255 : Int64)).toInt32))))] := hD
      refine lv_iinc (v := (l4 + (-1 : Int32))) (lv' := [(4, .int (l4 + (-1 : Int32))), (0, .ref a_o), (1, .long l1)]) hx hb dX5_type_73 hl (k := 2) rfl rfl (by decide) rfl (fun ls hl => ?_)
      refine lv_goto (tgt := 37) hx hb dX5_type_76 (by decide) ?_
      exact ih _ _ _ _ _ _ hf _ _ _ hP hD hS (lv_sub hl [1, 2, 0] rfl) kx
set_option maxHeartbeats 4000000 in
set_option maxRecDepth 100000 in
theorem kX5_type (l : Launch) (dC : Nat → ClassId) (dI : Nat → Nat → Nat) (Z : gZ) (cC cI cZ cW : ClassId) (a_o a_o_text a_o_need a_o_made a_o_skillTold a_o_placeTold a_o_skips a_o_wheelTold a_o_tunes a_o_s a_o_spare a_o_kept a_o_isKept a_o_makes a_o_works a_o_order : Nat) (sz : Nat) (o_thrown : Int32) (o_trace : Int64) (o_typed : Int32) (o_next : Int32) (o_token : Int32) (o_place : Int32) (o_value : Int32) (o_fault : Int32) (o_trades : Int32) (o_people : Int32) (o_draftTrades : Int32) (o_draftPeople : Int32) (o_isShut : Int32) (o_falling : Int32) (o_text : Nat → Int32) (j1 : Int64) (i3 : Int32) (N : Nat) (r' : Int32) (o_thrown' : Int32) (o_typed' : Int32) (o_text' : Nat → Int32) (hf : fX5_type N o_thrown o_typed o_text  j1 i3 = some (r', o_thrown', o_typed', o_text')) : Met l yX5_type wsX5_type rmX5_type (va_Pc [.ref a_o, .long j1, .int i3] (gB (dC, dI) Z [(cC, .char), (cI, .int), (cZ, .boolean), (cW, .object RX3)] [(a_o, .inr (5, [.int o_thrown, .long o_trace, .ref a_o_text, .int o_typed, .int o_next, .int o_token, .int o_place, .int o_value, .int o_fault, .ref a_o_need, .ref a_o_made, .ref a_o_skillTold, .ref a_o_placeTold, .ref a_o_skips, .ref a_o_wheelTold, .int o_trades, .int o_people, .int o_draftTrades, .int o_draftPeople, .int o_isShut, .ref a_o_tunes, .ref a_o_s, .ref a_o_spare, .ref a_o_kept, .ref a_o_isKept, .ref a_o_makes, .ref a_o_works, .ref a_o_order, .int o_falling])), (a_o_text, .inl (cI, 400, .inl o_text))] sz)) (va_Qi (fun (r : Int32) (_ : Unit) => r = r') (gE (dC, dI) [(a_o, .inr (5, [.int o_thrown', .long o_trace, .ref a_o_text, .int o_typed', .int o_next, .int o_token, .int o_place, .int o_value, .int o_fault, .ref a_o_need, .ref a_o_made, .ref a_o_skillTold, .ref a_o_placeTold, .ref a_o_skips, .ref a_o_wheelTold, .int o_trades, .int o_people, .int o_draftTrades, .int o_draftPeople, .int o_isShut, .ref a_o_tunes, .ref a_o_s, .ref a_o_spare, .ref a_o_kept, .ref a_o_isKept, .ref a_o_makes, .ref a_o_works, .ref a_o_order, .int o_falling])), (a_o_text, .inl (cI, 400, .inl o_text'))]) (va_A [(a_o, .inr (5, [.int o_thrown, .long o_trace, .ref a_o_text, .int o_typed, .int o_next, .int o_token, .int o_place, .int o_value, .int o_fault, .ref a_o_need, .ref a_o_made, .ref a_o_skillTold, .ref a_o_placeTold, .ref a_o_skips, .ref a_o_wheelTold, .int o_trades, .int o_people, .int o_draftTrades, .int o_draftPeople, .int o_isShut, .ref a_o_tunes, .ref a_o_s, .ref a_o_spare, .ref a_o_kept, .ref a_o_isKept, .ref a_o_makes, .ref a_o_works, .ref a_o_order, .int o_falling])), (a_o_text, .inl (cI, 400, .inl o_text))] sz)) 0 0 (va_A [(a_o, .inr (5, [.int o_thrown, .long o_trace, .ref a_o_text, .int o_typed, .int o_next, .int o_token, .int o_place, .int o_value, .int o_fault, .ref a_o_need, .ref a_o_made, .ref a_o_skillTold, .ref a_o_placeTold, .ref a_o_skips, .ref a_o_wheelTold, .int o_trades, .int o_people, .int o_draftTrades, .int o_draftPeople, .int o_isShut, .ref a_o_tunes, .ref a_o_s, .ref a_o_spare, .ref a_o_kept, .ref a_o_isKept, .ref a_o_makes, .ref a_o_works, .ref a_o_order, .int o_falling])), (a_o_text, .inl (cI, 400, .inl o_text))] sz) := by
  refine gMet (cc := cX5_type) (maxL := 5) (ret := (some .int)) (Qc := fun A => va_Qi (fun (r : Int32) (_ : Unit) => r = r') (gE (dC, dI) [(a_o, .inr (5, [.int o_thrown', .long o_trace, .ref a_o_text, .int o_typed', .int o_next, .int o_token, .int o_place, .int o_value, .int o_fault, .ref a_o_need, .ref a_o_made, .ref a_o_skillTold, .ref a_o_placeTold, .ref a_o_skips, .ref a_o_wheelTold, .int o_trades, .int o_people, .int o_draftTrades, .int o_draftPeople, .int o_isShut, .ref a_o_tunes, .ref a_o_s, .ref a_o_spare, .ref a_o_kept, .ref a_o_isKept, .ref a_o_makes, .ref a_o_works, .ref a_o_order, .int o_falling])), (a_o_text, .inl (cI, 400, .inl o_text'))]) A) (by decide) rfl (Nat.le_of_ble_eq_true rfl) ?_
  intro p e s m below meth c A ls hg0 _ hsz hP hD hS hl
  have hg0 : gX p s m _ meth c cX5_type 5 (some .int) wsX5_type RX5 (dC, dI) Z [(cC, .char), (cI, .int), (cZ, .boolean), (cW, .object RX3)] A := hg0
  obtain ⟨hx, hb, hr, hml, hown, hts, hlocks, hA, hK, hN⟩ := id hg0
  subst hsz
  have hF : CallFix p m c cX5_type 5 s _ wsX5_type RX5 := ⟨hx, hb, hml, hown, hts⟩
  have hl : lv_has ls 5 [(0, .ref a_o), (1, .long j1), (3, .int i3)] := hl
  unfold fX5_type at hf
  refine lv_aload_n hx hb dX5_type_0 rfl (lv_at hl 0 rfl) ?_
  refine lv_iconst (v := (0 : Int32)) hx hb dX5_type_1 (by decide) ?_
  refine va_put (D := (dC, dI)) (ci := 5) (v := .int (0 : Int32)) (ty := .int) (C := RX5) (T := TX5) (N := 29) hx hb hts uX5_type_X5 tyX5 tyX5_ok nmX5 hown hK hP hD hS 0 rfl rfl 0 (by decide) (hts _ mX5_type_0) (fun _ h9 => h9) rfl (by decide +kernel) rfl rfl (Nat.le_of_ble_eq_true rfl) dX5_type_2 (fun H locs hP hD hS => ?_)
  have hP : va_P (dC, dI) vwCl [(a_o, .inr (5, [.int (0 : Int32), .long o_trace, .ref a_o_text, .int o_typed, .int o_next, .int o_token, .int o_place, .int o_value, .int o_fault, .ref a_o_need, .ref a_o_made, .ref a_o_skillTold, .ref a_o_placeTold, .ref a_o_skips, .ref a_o_wheelTold, .int o_trades, .int o_people, .int o_draftTrades, .int o_draftPeople, .int o_isShut, .ref a_o_tunes, .ref a_o_s, .ref a_o_spare, .ref a_o_kept, .ref a_o_isKept, .ref a_o_makes, .ref a_o_works, .ref a_o_order, .int o_falling])), (a_o_text, .inl (cI, 400, .inl o_text))] H := hP
  have hD : va_D A [(a_o, .inr (5, [.int (0 : Int32), .long o_trace, .ref a_o_text, .int o_typed, .int o_next, .int o_token, .int o_place, .int o_value, .int o_fault, .ref a_o_need, .ref a_o_made, .ref a_o_skillTold, .ref a_o_placeTold, .ref a_o_skips, .ref a_o_wheelTold, .int o_trades, .int o_people, .int o_draftTrades, .int o_draftPeople, .int o_isShut, .ref a_o_tunes, .ref a_o_s, .ref a_o_spare, .ref a_o_kept, .ref a_o_isKept, .ref a_o_makes, .ref a_o_works, .ref a_o_order, .int o_falling])), (a_o_text, .inl (cI, 400, .inl o_text))] := hD
  refine lv_iload_n hx hb dX5_type_5 rfl (lv_at hl 2 rfl) ?_
  refine lv_iconst (v := (1 : Int32)) hx hb dX5_type_6 (by decide) ?_
  refine lv_bipush (v := (8 : Int32)) hx hb dX5_type_7 (by decide) ?_
  obtain ⟨r_1, hc, hf⟩ := pb1 hf
  refine gCi (va_runS (As := [.int i3, .int (1 : Int32), .int (8 : Int32)]) (rest := []) hF (kX5_in l dC dI Z cC cI cZ cW  _  i3 (1 : Int32) (8 : Int32) N r_1 hc) (cwS 3 hts gX5_type_X5_in rfl rfl rfl (by decide +kernel) ⟨Nat.le_of_ble_eq_true rfl, Nat.le_of_ble_eq_true rfl⟩) (gPS (wc := []) hK hN hA hS hP hD [] rfl rfl) rfl rfl hl.1 rfl (lv_room (Nat.le_of_ble_eq_true rfl)) dX5_type_9 ⟨Nat.zero_le _, Nat.zero_le _⟩) hP hD hS hA [] rfl rfl rfl (fun H locs hP hD hS => ?_)
  have hP : va_P (dC, dI) vwCl [(a_o, .inr (5, [.int (0 : Int32), .long o_trace, .ref a_o_text, .int o_typed, .int o_next, .int o_token, .int o_place, .int o_value, .int o_fault, .ref a_o_need, .ref a_o_made, .ref a_o_skillTold, .ref a_o_placeTold, .ref a_o_skips, .ref a_o_wheelTold, .int o_trades, .int o_people, .int o_draftTrades, .int o_draftPeople, .int o_isShut, .ref a_o_tunes, .ref a_o_s, .ref a_o_spare, .ref a_o_kept, .ref a_o_isKept, .ref a_o_makes, .ref a_o_works, .ref a_o_order, .int o_falling])), (a_o_text, .inl (cI, 400, .inl o_text))] H := hP
  have hD : va_D A [(a_o, .inr (5, [.int (0 : Int32), .long o_trace, .ref a_o_text, .int o_typed, .int o_next, .int o_token, .int o_place, .int o_value, .int o_fault, .ref a_o_need, .ref a_o_made, .ref a_o_skillTold, .ref a_o_placeTold, .ref a_o_skips, .ref a_o_wheelTold, .int o_trades, .int o_people, .int o_draftTrades, .int o_draftPeople, .int o_isShut, .ref a_o_tunes, .ref a_o_s, .ref a_o_spare, .ref a_o_kept, .ref a_o_isKept, .ref a_o_makes, .ref a_o_works, .ref a_o_order, .int o_falling])), (a_o_text, .inl (cI, 400, .inl o_text))] := hD
  refine lv_if_ne (tgt := 17) hx hb dX5_type_12 (by decide) (fun c_2 => ?_) (fun c_2 => ?_)
  · have hf := pif hf c_2
    refine lv_aload_n hx hb dX5_type_17 rfl (lv_at hl 0 rfl) ?_
    refine va_get (D := (dC, dI)) (ci := 5) (v := .int o_typed) (C := RX5) (T := TX5) (N := 29) hx hb hts uX5_type_X5 hown hK hP 0 rfl rfl 3 (by decide) (hts _ mX5_type_1) (fun _ h9 => h9) rfl dX5_type_18 ?_
    refine lv_iload_n hx hb dX5_type_21 rfl (lv_at hl 2 rfl) ?_
    refine lv_iadd hx hb dX5_type_22 ?_
    refine lv_sipush (v := (400 : Int32)) hx hb dX5_type_23 (by decide) ?_
    refine lv_icmp_le (tgt := 32) hx hb dX5_type_26 (by decide) (fun c_3 => ?_) (fun c_3 => ?_)
    · have hf := pit hf c_3
      refine lv_iload_n hx hb dX5_type_32 rfl (lv_at hl 2 rfl) ?_
      refine lv_iconst (v := (1 : Int32)) hx hb dX5_type_33 (by decide) ?_
      refine lv_isub hx hb dX5_type_34 ?_
      refine lv_istore (lv' := [(4, .int (i3 - (1 : Int32))), (0, .ref a_o), (1, .long j1), (3, .int i3)]) hx hb dX5_type_35 hl (by decide) rfl (fun ls hl => ?_)
      obtain ⟨o_typed_4, o_text_5, l4_6, hc, hf⟩ := pb3 hf
      refine wX5_type_37 hg0 a_o a_o_text a_o_need a_o_made a_o_skillTold a_o_placeTold a_o_skips a_o_wheelTold a_o_tunes a_o_s a_o_spare a_o_kept a_o_isKept a_o_makes a_o_works a_o_order (0 : Int32) o_trace o_next o_token o_place o_value o_fault o_trades o_people o_draftTrades o_draftPeople o_isShut o_falling j1 N N o_typed o_text (i3 - (1 : Int32)) o_typed_4 o_text_5 l4_6 hc _ _ _ hP hD hS (lv_sub hl [1, 2, 0] rfl) (fun H locs ls hP hD hS hl => ?_)
      refine lv_aload_n hx hb dX5_type_79 rfl (lv_at hl 0 rfl) ?_
      refine va_get (D := (dC, dI)) (ci := 5) (v := .int o_typed_4) (C := RX5) (T := TX5) (N := 29) hx hb hts uX5_type_X5 hown hK hP 0 rfl rfl 3 (by decide) (hts _ mX5_type_1) (fun _ h9 => h9) rfl dX5_type_80 ?_
      have q0 := Option.some.inj hf
      obtain ⟨e0, q1⟩ := Prod.mk.inj q0
      obtain ⟨e1, q2⟩ := Prod.mk.inj q1
      obtain ⟨e2, q3⟩ := Prod.mk.inj q2
      subst e0
      subst e1
      subst e2
      subst q3
      exact gRi hx hb hr hlocks hP hS dX5_type_83
    · have hf := pif hf c_3
      refine lv_bipush (v := (-3 : Int32)) hx hb dX5_type_29 (by decide) ?_
      have q0 := Option.some.inj hf
      obtain ⟨e0, q1⟩ := Prod.mk.inj q0
      obtain ⟨e1, q2⟩ := Prod.mk.inj q1
      obtain ⟨e2, q3⟩ := Prod.mk.inj q2
      subst e0
      subst e1
      subst e2
      subst q3
      exact gRi hx hb hr hlocks hP hS dX5_type_31
  · have hf := pit hf c_2
    refine lv_iconst (v := (-1 : Int32)) hx hb dX5_type_15 (by decide) ?_
    have q0 := Option.some.inj hf
    obtain ⟨e0, q1⟩ := Prod.mk.inj q0
    obtain ⟨e1, q2⟩ := Prod.mk.inj q1
    obtain ⟨e2, q3⟩ := Prod.mk.inj q2
    subst e0
    subst e1
    subst e2
    subst q3
    exact gRi hx hb hr hlocks hP hS dX5_type_16
abbrev rmX5_clear : Room := { frames := 0, cells := 0, slots := 0, locals := 0 }
set_option maxRecDepth 20000 in
theorem uX5_clear_X5 : ∀ w ∈ wsX50, w ∈ wsX5_clear := by decide +kernel
set_option maxRecDepth 20000 in
theorem mX5_clear_0 : (Cond.fieldLink RX5 59 "TradeWheelModel" "thrown" "I" : Cond) ∈ wsX5_clear := by decide +kernel
set_option maxRecDepth 20000 in
theorem mX5_clear_1 : (Cond.fieldLink RX5 67 "TradeWheelModel" "typed" "I" : Cond) ∈ wsX5_clear := by decide +kernel
set_option maxHeartbeats 4000000 in
set_option maxRecDepth 100000 in
theorem kX5_clear (l : Launch) (dC : Nat → ClassId) (dI : Nat → Nat → Nat) (Z : gZ) (cC cI cZ cW : ClassId) (a_o a_o_text a_o_need a_o_made a_o_skillTold a_o_placeTold a_o_skips a_o_wheelTold a_o_tunes a_o_s a_o_spare a_o_kept a_o_isKept a_o_makes a_o_works a_o_order : Nat) (sz : Nat) (o_thrown : Int32) (o_trace : Int64) (o_typed : Int32) (o_next : Int32) (o_token : Int32) (o_place : Int32) (o_value : Int32) (o_fault : Int32) (o_trades : Int32) (o_people : Int32) (o_draftTrades : Int32) (o_draftPeople : Int32) (o_isShut : Int32) (o_falling : Int32)  (N : Nat) (r' : Int32) (o_thrown' : Int32) (o_typed' : Int32) (hf : fX5_clear N o_thrown o_typed   = some (r', o_thrown', o_typed')) : Met l yX5_clear wsX5_clear rmX5_clear (va_Pc [.ref a_o] (gB (dC, dI) Z [(cC, .char), (cI, .int), (cZ, .boolean), (cW, .object RX3)] [(a_o, .inr (5, [.int o_thrown, .long o_trace, .ref a_o_text, .int o_typed, .int o_next, .int o_token, .int o_place, .int o_value, .int o_fault, .ref a_o_need, .ref a_o_made, .ref a_o_skillTold, .ref a_o_placeTold, .ref a_o_skips, .ref a_o_wheelTold, .int o_trades, .int o_people, .int o_draftTrades, .int o_draftPeople, .int o_isShut, .ref a_o_tunes, .ref a_o_s, .ref a_o_spare, .ref a_o_kept, .ref a_o_isKept, .ref a_o_makes, .ref a_o_works, .ref a_o_order, .int o_falling]))] sz)) (va_Qi (fun (r : Int32) (_ : Unit) => r = r') (gE (dC, dI) [(a_o, .inr (5, [.int o_thrown', .long o_trace, .ref a_o_text, .int o_typed', .int o_next, .int o_token, .int o_place, .int o_value, .int o_fault, .ref a_o_need, .ref a_o_made, .ref a_o_skillTold, .ref a_o_placeTold, .ref a_o_skips, .ref a_o_wheelTold, .int o_trades, .int o_people, .int o_draftTrades, .int o_draftPeople, .int o_isShut, .ref a_o_tunes, .ref a_o_s, .ref a_o_spare, .ref a_o_kept, .ref a_o_isKept, .ref a_o_makes, .ref a_o_works, .ref a_o_order, .int o_falling]))]) (va_A [(a_o, .inr (5, [.int o_thrown, .long o_trace, .ref a_o_text, .int o_typed, .int o_next, .int o_token, .int o_place, .int o_value, .int o_fault, .ref a_o_need, .ref a_o_made, .ref a_o_skillTold, .ref a_o_placeTold, .ref a_o_skips, .ref a_o_wheelTold, .int o_trades, .int o_people, .int o_draftTrades, .int o_draftPeople, .int o_isShut, .ref a_o_tunes, .ref a_o_s, .ref a_o_spare, .ref a_o_kept, .ref a_o_isKept, .ref a_o_makes, .ref a_o_works, .ref a_o_order, .int o_falling]))] sz)) 0 0 (va_A [(a_o, .inr (5, [.int o_thrown, .long o_trace, .ref a_o_text, .int o_typed, .int o_next, .int o_token, .int o_place, .int o_value, .int o_fault, .ref a_o_need, .ref a_o_made, .ref a_o_skillTold, .ref a_o_placeTold, .ref a_o_skips, .ref a_o_wheelTold, .int o_trades, .int o_people, .int o_draftTrades, .int o_draftPeople, .int o_isShut, .ref a_o_tunes, .ref a_o_s, .ref a_o_spare, .ref a_o_kept, .ref a_o_isKept, .ref a_o_makes, .ref a_o_works, .ref a_o_order, .int o_falling]))] sz) := by
  refine gMet (cc := cX5_clear) (maxL := 2) (ret := (some .int)) (Qc := fun A => va_Qi (fun (r : Int32) (_ : Unit) => r = r') (gE (dC, dI) [(a_o, .inr (5, [.int o_thrown', .long o_trace, .ref a_o_text, .int o_typed', .int o_next, .int o_token, .int o_place, .int o_value, .int o_fault, .ref a_o_need, .ref a_o_made, .ref a_o_skillTold, .ref a_o_placeTold, .ref a_o_skips, .ref a_o_wheelTold, .int o_trades, .int o_people, .int o_draftTrades, .int o_draftPeople, .int o_isShut, .ref a_o_tunes, .ref a_o_s, .ref a_o_spare, .ref a_o_kept, .ref a_o_isKept, .ref a_o_makes, .ref a_o_works, .ref a_o_order, .int o_falling]))]) A) (by decide) rfl (Nat.le_of_ble_eq_true rfl) ?_
  intro p e s m below meth c A ls hg0 _ hsz hP hD hS hl
  have hg0 : gX p s m _ meth c cX5_clear 2 (some .int) wsX5_clear RX5 (dC, dI) Z [(cC, .char), (cI, .int), (cZ, .boolean), (cW, .object RX3)] A := hg0
  obtain ⟨hx, hb, hr, hml, hown, hts, hlocks, hA, hK, hN⟩ := id hg0
  subst hsz
  have hF : CallFix p m c cX5_clear 2 s _ wsX5_clear RX5 := ⟨hx, hb, hml, hown, hts⟩
  have hl : lv_has ls 2 [(0, .ref a_o)] := hl
  unfold fX5_clear at hf
  refine lv_aload_n hx hb dX5_clear_0 rfl (lv_at hl 0 rfl) ?_
  refine lv_iconst (v := (0 : Int32)) hx hb dX5_clear_1 (by decide) ?_
  refine va_put (D := (dC, dI)) (ci := 5) (v := .int (0 : Int32)) (ty := .int) (C := RX5) (T := TX5) (N := 29) hx hb hts uX5_clear_X5 tyX5 tyX5_ok nmX5 hown hK hP hD hS 0 rfl rfl 0 (by decide) (hts _ mX5_clear_0) (fun _ h9 => h9) rfl (by decide +kernel) rfl rfl (Nat.le_of_ble_eq_true rfl) dX5_clear_2 (fun H locs hP hD hS => ?_)
  have hP : va_P (dC, dI) vwCl [(a_o, .inr (5, [.int (0 : Int32), .long o_trace, .ref a_o_text, .int o_typed, .int o_next, .int o_token, .int o_place, .int o_value, .int o_fault, .ref a_o_need, .ref a_o_made, .ref a_o_skillTold, .ref a_o_placeTold, .ref a_o_skips, .ref a_o_wheelTold, .int o_trades, .int o_people, .int o_draftTrades, .int o_draftPeople, .int o_isShut, .ref a_o_tunes, .ref a_o_s, .ref a_o_spare, .ref a_o_kept, .ref a_o_isKept, .ref a_o_makes, .ref a_o_works, .ref a_o_order, .int o_falling]))] H := hP
  have hD : va_D A [(a_o, .inr (5, [.int (0 : Int32), .long o_trace, .ref a_o_text, .int o_typed, .int o_next, .int o_token, .int o_place, .int o_value, .int o_fault, .ref a_o_need, .ref a_o_made, .ref a_o_skillTold, .ref a_o_placeTold, .ref a_o_skips, .ref a_o_wheelTold, .int o_trades, .int o_people, .int o_draftTrades, .int o_draftPeople, .int o_isShut, .ref a_o_tunes, .ref a_o_s, .ref a_o_spare, .ref a_o_kept, .ref a_o_isKept, .ref a_o_makes, .ref a_o_works, .ref a_o_order, .int o_falling]))] := hD
  refine lv_aload_n hx hb dX5_clear_5 rfl (lv_at hl 0 rfl) ?_
  refine va_get (D := (dC, dI)) (ci := 5) (v := .int o_typed) (C := RX5) (T := TX5) (N := 29) hx hb hts uX5_clear_X5 hown hK hP 0 rfl rfl 3 (by decide) (hts _ mX5_clear_1) (fun _ h9 => h9) rfl dX5_clear_6 ?_
  refine lv_istore_n (lv' := [(1, .int o_typed), (0, .ref a_o)]) hx hb dX5_clear_9 rfl hl (by decide) rfl (fun ls hl => ?_)
  refine lv_aload_n hx hb dX5_clear_10 rfl (lv_at hl 1 rfl) ?_
  refine lv_iconst (v := (0 : Int32)) hx hb dX5_clear_11 (by decide) ?_
  refine va_put (D := (dC, dI)) (ci := 5) (v := .int (0 : Int32)) (ty := .int) (C := RX5) (T := TX5) (N := 29) hx hb hts uX5_clear_X5 tyX5 tyX5_ok nmX5 hown hK hP hD hS 0 rfl rfl 3 (by decide) (hts _ mX5_clear_1) (fun _ h9 => h9) rfl (by decide +kernel) rfl rfl (Nat.le_of_ble_eq_true rfl) dX5_clear_12 (fun H locs hP hD hS => ?_)
  have hP : va_P (dC, dI) vwCl [(a_o, .inr (5, [.int (0 : Int32), .long o_trace, .ref a_o_text, .int (0 : Int32), .int o_next, .int o_token, .int o_place, .int o_value, .int o_fault, .ref a_o_need, .ref a_o_made, .ref a_o_skillTold, .ref a_o_placeTold, .ref a_o_skips, .ref a_o_wheelTold, .int o_trades, .int o_people, .int o_draftTrades, .int o_draftPeople, .int o_isShut, .ref a_o_tunes, .ref a_o_s, .ref a_o_spare, .ref a_o_kept, .ref a_o_isKept, .ref a_o_makes, .ref a_o_works, .ref a_o_order, .int o_falling]))] H := hP
  have hD : va_D A [(a_o, .inr (5, [.int (0 : Int32), .long o_trace, .ref a_o_text, .int (0 : Int32), .int o_next, .int o_token, .int o_place, .int o_value, .int o_fault, .ref a_o_need, .ref a_o_made, .ref a_o_skillTold, .ref a_o_placeTold, .ref a_o_skips, .ref a_o_wheelTold, .int o_trades, .int o_people, .int o_draftTrades, .int o_draftPeople, .int o_isShut, .ref a_o_tunes, .ref a_o_s, .ref a_o_spare, .ref a_o_kept, .ref a_o_isKept, .ref a_o_makes, .ref a_o_works, .ref a_o_order, .int o_falling]))] := hD
  refine lv_iload_n hx hb dX5_clear_15 rfl (lv_at hl 0 rfl) ?_
  have q0 := Option.some.inj hf
  obtain ⟨e0, q1⟩ := Prod.mk.inj q0
  obtain ⟨e1, q2⟩ := Prod.mk.inj q1
  subst e0
  subst e1
  subst q2
  exact gRi hx hb hr hlocks hP hS dX5_clear_16
abbrev rmX5_begins : Room := { frames := 0, cells := 0, slots := 0, locals := 0 }
set_option maxRecDepth 20000 in
theorem uX5_begins_X5 : ∀ w ∈ wsX50, w ∈ wsX5_begins := by decide +kernel
set_option maxRecDepth 20000 in
theorem mX5_begins_0 : (Cond.fieldLink RX5 34 "TradeWheelModel" "s" "[I" : Cond) ∈ wsX5_begins := by decide +kernel
set_option maxRecDepth 20000 in
theorem mX5_begins_1 : (Cond.fieldLink RX5 28 "TradeWheelModel" "wheelTold" "[I" : Cond) ∈ wsX5_begins := by decide +kernel
set_option maxRecDepth 20000 in
theorem mX5_begins_2 : (Cond.fieldLink RX5 22 "TradeWheelModel" "placeTold" "[I" : Cond) ∈ wsX5_begins := by decide +kernel
set_option maxRecDepth 20000 in
theorem mX5_begins_3 : (Cond.fieldLink RX5 19 "TradeWheelModel" "skillTold" "[I" : Cond) ∈ wsX5_begins := by decide +kernel
set_option maxHeartbeats 4000000 in
set_option maxRecDepth 100000 in
theorem wX5_begins_2 {p : Program} {l : Launch} {e : Env} {s : State} {m : MethodId} {args : Array Value} {below : List Frame} {meth : Method} {c : Code} {Q : State → Prop} {A : Nat → Prop} {dC : Nat → ClassId} {dI : Nat → Nat → Nat} {Z : gZ} {cC cI cZ cW : ClassId} (hg0 : gX p s m args meth c cX5_begins 2 none wsX5_begins RX5 (dC, dI) Z [(cC, .char), (cI, .int), (cZ, .boolean), (cW, .object RX3)] A) (a_o a_o_text a_o_need a_o_made a_o_skillTold a_o_placeTold a_o_skips a_o_wheelTold a_o_tunes a_o_s a_o_spare a_o_kept a_o_isKept a_o_makes a_o_works a_o_order : Nat) (o_thrown : Int32) (o_trace : Int64) (o_typed : Int32) (o_next : Int32) (o_token : Int32) (o_place : Int32) (o_value : Int32) (o_fault : Int32) (o_trades : Int32) (o_people : Int32) (o_draftTrades : Int32) (o_draftPeople : Int32) (o_isShut : Int32) (o_falling : Int32) (o_skillTold : Nat → Int32) (o_placeTold : Nat → Int32) (o_wheelTold : Nat → Int32)  (N : Nat) : ∀ (n : Nat) (o_s : Nat → Int32) (l1 : Int32) (o_s' : Nat → Int32) (l1' : Int32), fX5_begins_2 N  n o_s l1 = some (o_s', l1') → ∀ (H : Heap) (locs : List Loc) (ls : Array Slot), va_P (dC, dI) vwCl [(a_o, .inr (5, [.int o_thrown, .long o_trace, .ref a_o_text, .int o_typed, .int o_next, .int o_token, .int o_place, .int o_value, .int o_fault, .ref a_o_need, .ref a_o_made, .ref a_o_skillTold, .ref a_o_placeTold, .ref a_o_skips, .ref a_o_wheelTold, .int o_trades, .int o_people, .int o_draftTrades, .int o_draftPeople, .int o_isShut, .ref a_o_tunes, .ref a_o_s, .ref a_o_spare, .ref a_o_kept, .ref a_o_isKept, .ref a_o_makes, .ref a_o_works, .ref a_o_order, .int o_falling])), (a_o_skillTold, .inl (cI, 72, .inl o_skillTold)), (a_o_placeTold, .inl (cI, 12, .inl o_placeTold)), (a_o_wheelTold, .inl (cI, 12, .inl o_wheelTold)), (a_o_s, .inl (cI, 105, .inl o_s))] H → va_D A [(a_o, .inr (5, [.int o_thrown, .long o_trace, .ref a_o_text, .int o_typed, .int o_next, .int o_token, .int o_place, .int o_value, .int o_fault, .ref a_o_need, .ref a_o_made, .ref a_o_skillTold, .ref a_o_placeTold, .ref a_o_skips, .ref a_o_wheelTold, .int o_trades, .int o_people, .int o_draftTrades, .int o_draftPeople, .int o_isShut, .ref a_o_tunes, .ref a_o_s, .ref a_o_spare, .ref a_o_kept, .ref a_o_isKept, .ref a_o_makes, .ref a_o_works, .ref a_o_order, .int o_falling])), (a_o_skillTold, .inl (cI, 72, .inl o_skillTold)), (a_o_placeTold, .inl (cI, 12, .inl o_placeTold)), (a_o_wheelTold, .inl (cI, 12, .inl o_wheelTold)), (a_o_s, .inl (cI, 105, .inl o_s))] → va_S A s.heap H locs → lv_has ls 2 [(0, .ref a_o), (1, .int l1)] → (∀ (H : Heap) (locs : List Loc) (ls : Array Slot), va_P (dC, dI) vwCl [(a_o, .inr (5, [.int o_thrown, .long o_trace, .ref a_o_text, .int o_typed, .int o_next, .int o_token, .int o_place, .int o_value, .int o_fault, .ref a_o_need, .ref a_o_made, .ref a_o_skillTold, .ref a_o_placeTold, .ref a_o_skips, .ref a_o_wheelTold, .int o_trades, .int o_people, .int o_draftTrades, .int o_draftPeople, .int o_isShut, .ref a_o_tunes, .ref a_o_s, .ref a_o_spare, .ref a_o_kept, .ref a_o_isKept, .ref a_o_makes, .ref a_o_works, .ref a_o_order, .int o_falling])), (a_o_skillTold, .inl (cI, 72, .inl o_skillTold)), (a_o_placeTold, .inl (cI, 12, .inl o_placeTold)), (a_o_wheelTold, .inl (cI, 12, .inl o_wheelTold)), (a_o_s, .inl (cI, 105, .inl o_s'))] H → va_D A [(a_o, .inr (5, [.int o_thrown, .long o_trace, .ref a_o_text, .int o_typed, .int o_next, .int o_token, .int o_place, .int o_value, .int o_fault, .ref a_o_need, .ref a_o_made, .ref a_o_skillTold, .ref a_o_placeTold, .ref a_o_skips, .ref a_o_wheelTold, .int o_trades, .int o_people, .int o_draftTrades, .int o_draftPeople, .int o_isShut, .ref a_o_tunes, .ref a_o_s, .ref a_o_spare, .ref a_o_kept, .ref a_o_isKept, .ref a_o_makes, .ref a_o_works, .ref a_o_order, .int o_falling])), (a_o_skillTold, .inl (cI, 72, .inl o_skillTold)), (a_o_placeTold, .inl (cI, 12, .inl o_placeTold)), (a_o_wheelTold, .inl (cI, 12, .inl o_wheelTold)), (a_o_s, .inl (cI, 105, .inl o_s'))] → va_S A s.heap H locs → lv_has ls 2 [(0, .ref a_o)] → W p l e (headSpec wsX5_begins rmX5_begins).room s m args below meth c H locs 0 0 Q (F0 m 21 ls [])) → W p l e (headSpec wsX5_begins rmX5_begins).room s m args below meth c H locs 0 0 Q (F0 m 2 ls []) := by
  obtain ⟨hx, hb, hr, hml, hown, hts, hlocks, hA, hK, hN⟩ := id hg0
  have hF : CallFix p m c cX5_begins 2 s args wsX5_begins RX5 := ⟨hx, hb, hml, hown, hts⟩
  intro n
  induction n with
  | zero =>
    intro o_s l1 o_s' l1' hf
    have hf := fX5_begins_2_0.symm.trans hf
    cases hf
  | succ n ih =>
    intro o_s l1 o_s' l1' hf H locs ls hP hD hS hl kx
    have hf := fX5_begins_2_s.symm.trans hf
    refine lv_iload_n hx hb dX5_begins_2 rfl (lv_at hl 1 rfl) ?_
    refine lv_bipush (v := (105 : Int32)) hx hb dX5_begins_3 (by decide) ?_
    refine lv_icmp_ge (tgt := 21) hx hb dX5_begins_5 (by decide) (fun c_1 => ?_) (fun c_1 => ?_)
    · have hf := pit hf c_1
      have q0 := Option.some.inj hf
      obtain ⟨e0, q1⟩ := Prod.mk.inj q0
      subst e0
      subst q1
      exact kx _ _ _ hP hD hS (lv_sub hl [0] rfl)
    · have hf := pif hf c_1
      refine lv_aload_n hx hb dX5_begins_8 rfl (lv_at hl 0 rfl) ?_
      refine va_get (D := (dC, dI)) (ci := 5) (v := .ref a_o_s) (C := RX5) (T := TX5) (N := 29) hx hb hts uX5_begins_X5 hown hK hP 0 rfl rfl 21 (by decide) (hts _ mX5_begins_0) (fun _ h9 => h9) rfl dX5_begins_9 ?_
      refine lv_iload_n hx hb dX5_begins_12 rfl (lv_at hl 1 rfl) ?_
      refine lv_iconst (v := (0 : Int32)) hx hb dX5_begins_13 (by decide) ?_
      obtain ⟨h_2, hf⟩ := pgd hf
      refine va_iast hx hb hK hP hD hS 4 1 rfl rfl h_2 dX5_begins_14 (fun H locs hP hD hS => ?_)
      have hP : va_P (dC, dI) vwCl [(a_o, .inr (5, [.int o_thrown, .long o_trace, .ref a_o_text, .int o_typed, .int o_next, .int o_token, .int o_place, .int o_value, .int o_fault, .ref a_o_need, .ref a_o_made, .ref a_o_skillTold, .ref a_o_placeTold, .ref a_o_skips, .ref a_o_wheelTold, .int o_trades, .int o_people, .int o_draftTrades, .int o_draftPeople, .int o_isShut, .ref a_o_tunes, .ref a_o_s, .ref a_o_spare, .ref a_o_kept, .ref a_o_isKept, .ref a_o_makes, .ref a_o_works, .ref a_o_order, .int o_falling])), (a_o_skillTold, .inl (cI, 72, .inl o_skillTold)), (a_o_placeTold, .inl (cI, 12, .inl o_placeTold)), (a_o_wheelTold, .inl (cI, 12, .inl o_wheelTold)), (a_o_s, .inl (cI, 105, .inl (upd o_s l1.toNatClampNeg (0 : Int32))))] H := hP
      have hD : va_D A [(a_o, .inr (5, [.int o_thrown, .long o_trace, .ref a_o_text, .int o_typed, .int o_next, .int o_token, .int o_place, .int o_value, .int o_fault, .ref a_o_need, .ref a_o_made, .ref a_o_skillTold, .ref a_o_placeTold, .ref a_o_skips, .ref a_o_wheelTold, .int o_trades, .int o_people, .int o_draftTrades, .int o_draftPeople, .int o_isShut, .ref a_o_tunes, .ref a_o_s, .ref a_o_spare, .ref a_o_kept, .ref a_o_isKept, .ref a_o_makes, .ref a_o_works, .ref a_o_order, .int o_falling])), (a_o_skillTold, .inl (cI, 72, .inl o_skillTold)), (a_o_placeTold, .inl (cI, 12, .inl o_placeTold)), (a_o_wheelTold, .inl (cI, 12, .inl o_wheelTold)), (a_o_s, .inl (cI, 105, .inl (upd o_s l1.toNatClampNeg (0 : Int32))))] := hD
      refine lv_iinc (v := (l1 + 1)) (lv' := [(1, .int (l1 + 1)), (0, .ref a_o)]) hx hb dX5_begins_15 hl (k := 1) rfl rfl (by decide) rfl (fun ls hl => ?_)
      refine lv_goto (tgt := 2) hx hb dX5_begins_18 (by decide) ?_
      exact ih _ _ _ _ hf _ _ _ hP hD hS (lv_sub hl [1, 0] rfl) kx
set_option maxHeartbeats 4000000 in
set_option maxRecDepth 100000 in
theorem wX5_begins_23 {p : Program} {l : Launch} {e : Env} {s : State} {m : MethodId} {args : Array Value} {below : List Frame} {meth : Method} {c : Code} {Q : State → Prop} {A : Nat → Prop} {dC : Nat → ClassId} {dI : Nat → Nat → Nat} {Z : gZ} {cC cI cZ cW : ClassId} (hg0 : gX p s m args meth c cX5_begins 2 none wsX5_begins RX5 (dC, dI) Z [(cC, .char), (cI, .int), (cZ, .boolean), (cW, .object RX3)] A) (a_o a_o_text a_o_need a_o_made a_o_skillTold a_o_placeTold a_o_skips a_o_wheelTold a_o_tunes a_o_s a_o_spare a_o_kept a_o_isKept a_o_makes a_o_works a_o_order : Nat) (o_thrown : Int32) (o_trace : Int64) (o_typed : Int32) (o_next : Int32) (o_token : Int32) (o_place : Int32) (o_value : Int32) (o_fault : Int32) (o_trades : Int32) (o_people : Int32) (o_draftTrades : Int32) (o_draftPeople : Int32) (o_isShut : Int32) (o_falling : Int32) (o_skillTold : Nat → Int32) (o_placeTold : Nat → Int32) (o_wheelTold : Nat → Int32)  (N : Nat) : ∀ (n : Nat) (o_s : Nat → Int32) (l1 : Int32) (o_s' : Nat → Int32) (l1' : Int32), fX5_begins_23 N o_placeTold o_wheelTold n o_s l1 = some (o_s', l1') → ∀ (H : Heap) (locs : List Loc) (ls : Array Slot), va_P (dC, dI) vwCl [(a_o, .inr (5, [.int o_thrown, .long o_trace, .ref a_o_text, .int o_typed, .int o_next, .int o_token, .int o_place, .int o_value, .int o_fault, .ref a_o_need, .ref a_o_made, .ref a_o_skillTold, .ref a_o_placeTold, .ref a_o_skips, .ref a_o_wheelTold, .int o_trades, .int o_people, .int o_draftTrades, .int o_draftPeople, .int o_isShut, .ref a_o_tunes, .ref a_o_s, .ref a_o_spare, .ref a_o_kept, .ref a_o_isKept, .ref a_o_makes, .ref a_o_works, .ref a_o_order, .int o_falling])), (a_o_skillTold, .inl (cI, 72, .inl o_skillTold)), (a_o_placeTold, .inl (cI, 12, .inl o_placeTold)), (a_o_wheelTold, .inl (cI, 12, .inl o_wheelTold)), (a_o_s, .inl (cI, 105, .inl o_s))] H → va_D A [(a_o, .inr (5, [.int o_thrown, .long o_trace, .ref a_o_text, .int o_typed, .int o_next, .int o_token, .int o_place, .int o_value, .int o_fault, .ref a_o_need, .ref a_o_made, .ref a_o_skillTold, .ref a_o_placeTold, .ref a_o_skips, .ref a_o_wheelTold, .int o_trades, .int o_people, .int o_draftTrades, .int o_draftPeople, .int o_isShut, .ref a_o_tunes, .ref a_o_s, .ref a_o_spare, .ref a_o_kept, .ref a_o_isKept, .ref a_o_makes, .ref a_o_works, .ref a_o_order, .int o_falling])), (a_o_skillTold, .inl (cI, 72, .inl o_skillTold)), (a_o_placeTold, .inl (cI, 12, .inl o_placeTold)), (a_o_wheelTold, .inl (cI, 12, .inl o_wheelTold)), (a_o_s, .inl (cI, 105, .inl o_s))] → va_S A s.heap H locs → lv_has ls 2 [(0, .ref a_o), (1, .int l1)] → (∀ (H : Heap) (locs : List Loc) (ls : Array Slot), va_P (dC, dI) vwCl [(a_o, .inr (5, [.int o_thrown, .long o_trace, .ref a_o_text, .int o_typed, .int o_next, .int o_token, .int o_place, .int o_value, .int o_fault, .ref a_o_need, .ref a_o_made, .ref a_o_skillTold, .ref a_o_placeTold, .ref a_o_skips, .ref a_o_wheelTold, .int o_trades, .int o_people, .int o_draftTrades, .int o_draftPeople, .int o_isShut, .ref a_o_tunes, .ref a_o_s, .ref a_o_spare, .ref a_o_kept, .ref a_o_isKept, .ref a_o_makes, .ref a_o_works, .ref a_o_order, .int o_falling])), (a_o_skillTold, .inl (cI, 72, .inl o_skillTold)), (a_o_placeTold, .inl (cI, 12, .inl o_placeTold)), (a_o_wheelTold, .inl (cI, 12, .inl o_wheelTold)), (a_o_s, .inl (cI, 105, .inl o_s'))] H → va_D A [(a_o, .inr (5, [.int o_thrown, .long o_trace, .ref a_o_text, .int o_typed, .int o_next, .int o_token, .int o_place, .int o_value, .int o_fault, .ref a_o_need, .ref a_o_made, .ref a_o_skillTold, .ref a_o_placeTold, .ref a_o_skips, .ref a_o_wheelTold, .int o_trades, .int o_people, .int o_draftTrades, .int o_draftPeople, .int o_isShut, .ref a_o_tunes, .ref a_o_s, .ref a_o_spare, .ref a_o_kept, .ref a_o_isKept, .ref a_o_makes, .ref a_o_works, .ref a_o_order, .int o_falling])), (a_o_skillTold, .inl (cI, 72, .inl o_skillTold)), (a_o_placeTold, .inl (cI, 12, .inl o_placeTold)), (a_o_wheelTold, .inl (cI, 12, .inl o_wheelTold)), (a_o_s, .inl (cI, 105, .inl o_s'))] → va_S A s.heap H locs → lv_has ls 2 [(0, .ref a_o)] → W p l e (headSpec wsX5_begins rmX5_begins).room s m args below meth c H locs 0 0 Q (F0 m 76 ls [])) → W p l e (headSpec wsX5_begins rmX5_begins).room s m args below meth c H locs 0 0 Q (F0 m 23 ls []) := by
  obtain ⟨hx, hb, hr, hml, hown, hts, hlocks, hA, hK, hN⟩ := id hg0
  have hF : CallFix p m c cX5_begins 2 s args wsX5_begins RX5 := ⟨hx, hb, hml, hown, hts⟩
  intro n
  induction n with
  | zero =>
    intro o_s l1 o_s' l1' hf
    have hf := fX5_begins_23_0.symm.trans hf
    cases hf
  | succ n ih =>
    intro o_s l1 o_s' l1' hf H locs ls hP hD hS hl kx
    have hf := fX5_begins_23_s.symm.trans hf
    refine lv_iload_n hx hb dX5_begins_23 rfl (lv_at hl 1 rfl) ?_
    refine lv_bipush (v := (6 : Int32)) hx hb dX5_begins_24 (by decide) ?_
    refine lv_icmp_ge (tgt := 76) hx hb dX5_begins_26 (by decide) (fun c_1 => ?_) (fun c_1 => ?_)
    · have hf := pit hf c_1
      have q0 := Option.some.inj hf
      obtain ⟨e0, q1⟩ := Prod.mk.inj q0
      subst e0
      subst q1
      exact kx _ _ _ hP hD hS (lv_sub hl [0] rfl)
    · have hf := pif hf c_1
      refine lv_aload_n hx hb dX5_begins_29 rfl (lv_at hl 0 rfl) ?_
      refine va_get (D := (dC, dI)) (ci := 5) (v := .ref a_o_s) (C := RX5) (T := TX5) (N := 29) hx hb hts uX5_begins_X5 hown hK hP 0 rfl rfl 21 (by decide) (hts _ mX5_begins_0) (fun _ h9 => h9) rfl dX5_begins_30 ?_
      refine lv_bipush (v := (14 : Int32)) hx hb dX5_begins_33 (by decide) ?_
      refine lv_iload_n hx hb dX5_begins_35 rfl (lv_at hl 1 rfl) ?_
      refine lv_iadd hx hb dX5_begins_36 ?_
      refine lv_aload_n hx hb dX5_begins_37 rfl (lv_at hl 0 rfl) ?_
      refine va_get (D := (dC, dI)) (ci := 5) (v := .ref a_o_wheelTold) (C := RX5) (T := TX5) (N := 29) hx hb hts uX5_begins_X5 hown hK hP 0 rfl rfl 14 (by decide) (hts _ mX5_begins_1) (fun _ h9 => h9) rfl dX5_begins_38 ?_
      refine lv_iload_n hx hb dX5_begins_41 rfl (lv_at hl 1 rfl) ?_
      obtain ⟨h_2, hf⟩ := pgd hf
      refine va_iald hx hb hK hP 3 1 rfl rfl h_2 dX5_begins_42 ?_
      obtain ⟨h_3, hf⟩ := pgd hf
      refine va_iast hx hb hK hP hD hS 4 1 rfl rfl h_3 dX5_begins_43 (fun H locs hP hD hS => ?_)
      have hP : va_P (dC, dI) vwCl [(a_o, .inr (5, [.int o_thrown, .long o_trace, .ref a_o_text, .int o_typed, .int o_next, .int o_token, .int o_place, .int o_value, .int o_fault, .ref a_o_need, .ref a_o_made, .ref a_o_skillTold, .ref a_o_placeTold, .ref a_o_skips, .ref a_o_wheelTold, .int o_trades, .int o_people, .int o_draftTrades, .int o_draftPeople, .int o_isShut, .ref a_o_tunes, .ref a_o_s, .ref a_o_spare, .ref a_o_kept, .ref a_o_isKept, .ref a_o_makes, .ref a_o_works, .ref a_o_order, .int o_falling])), (a_o_skillTold, .inl (cI, 72, .inl o_skillTold)), (a_o_placeTold, .inl (cI, 12, .inl o_placeTold)), (a_o_wheelTold, .inl (cI, 12, .inl o_wheelTold)), (a_o_s, .inl (cI, 105, .inl (upd o_s ((14 : Int32) + l1).toNatClampNeg (o_wheelTold l1.toNatClampNeg))))] H := hP
      have hD : va_D A [(a_o, .inr (5, [.int o_thrown, .long o_trace, .ref a_o_text, .int o_typed, .int o_next, .int o_token, .int o_place, .int o_value, .int o_fault, .ref a_o_need, .ref a_o_made, .ref a_o_skillTold, .ref a_o_placeTold, .ref a_o_skips, .ref a_o_wheelTold, .int o_trades, .int o_people, .int o_draftTrades, .int o_draftPeople, .int o_isShut, .ref a_o_tunes, .ref a_o_s, .ref a_o_spare, .ref a_o_kept, .ref a_o_isKept, .ref a_o_makes, .ref a_o_works, .ref a_o_order, .int o_falling])), (a_o_skillTold, .inl (cI, 72, .inl o_skillTold)), (a_o_placeTold, .inl (cI, 12, .inl o_placeTold)), (a_o_wheelTold, .inl (cI, 12, .inl o_wheelTold)), (a_o_s, .inl (cI, 105, .inl (upd o_s ((14 : Int32) + l1).toNatClampNeg (o_wheelTold l1.toNatClampNeg))))] := hD
      refine lv_aload_n hx hb dX5_begins_44 rfl (lv_at hl 0 rfl) ?_
      refine va_get (D := (dC, dI)) (ci := 5) (v := .ref a_o_s) (C := RX5) (T := TX5) (N := 29) hx hb hts uX5_begins_X5 hown hK hP 0 rfl rfl 21 (by decide) (hts _ mX5_begins_0) (fun _ h9 => h9) rfl dX5_begins_45 ?_
      refine lv_bipush (v := (20 : Int32)) hx hb dX5_begins_48 (by decide) ?_
      refine lv_iload_n hx hb dX5_begins_50 rfl (lv_at hl 1 rfl) ?_
      refine lv_iadd hx hb dX5_begins_51 ?_
      refine lv_aload_n hx hb dX5_begins_52 rfl (lv_at hl 0 rfl) ?_
      refine va_get (D := (dC, dI)) (ci := 5) (v := .ref a_o_placeTold) (C := RX5) (T := TX5) (N := 29) hx hb hts uX5_begins_X5 hown hK hP 0 rfl rfl 12 (by decide) (hts _ mX5_begins_2) (fun _ h9 => h9) rfl dX5_begins_53 ?_
      refine lv_iload_n hx hb dX5_begins_56 rfl (lv_at hl 1 rfl) ?_
      obtain ⟨h_4, hf⟩ := pgd hf
      refine va_iald hx hb hK hP 2 1 rfl rfl h_4 dX5_begins_57 ?_
      obtain ⟨h_5, hf⟩ := pgd hf
      refine va_iast hx hb hK hP hD hS 4 1 rfl rfl h_5 dX5_begins_58 (fun H locs hP hD hS => ?_)
      have hP : va_P (dC, dI) vwCl [(a_o, .inr (5, [.int o_thrown, .long o_trace, .ref a_o_text, .int o_typed, .int o_next, .int o_token, .int o_place, .int o_value, .int o_fault, .ref a_o_need, .ref a_o_made, .ref a_o_skillTold, .ref a_o_placeTold, .ref a_o_skips, .ref a_o_wheelTold, .int o_trades, .int o_people, .int o_draftTrades, .int o_draftPeople, .int o_isShut, .ref a_o_tunes, .ref a_o_s, .ref a_o_spare, .ref a_o_kept, .ref a_o_isKept, .ref a_o_makes, .ref a_o_works, .ref a_o_order, .int o_falling])), (a_o_skillTold, .inl (cI, 72, .inl o_skillTold)), (a_o_placeTold, .inl (cI, 12, .inl o_placeTold)), (a_o_wheelTold, .inl (cI, 12, .inl o_wheelTold)), (a_o_s, .inl (cI, 105, .inl (upd (upd o_s ((14 : Int32) + l1).toNatClampNeg (o_wheelTold l1.toNatClampNeg)) ((20 : Int32) + l1).toNatClampNeg (o_placeTold l1.toNatClampNeg))))] H := hP
      have hD : va_D A [(a_o, .inr (5, [.int o_thrown, .long o_trace, .ref a_o_text, .int o_typed, .int o_next, .int o_token, .int o_place, .int o_value, .int o_fault, .ref a_o_need, .ref a_o_made, .ref a_o_skillTold, .ref a_o_placeTold, .ref a_o_skips, .ref a_o_wheelTold, .int o_trades, .int o_people, .int o_draftTrades, .int o_draftPeople, .int o_isShut, .ref a_o_tunes, .ref a_o_s, .ref a_o_spare, .ref a_o_kept, .ref a_o_isKept, .ref a_o_makes, .ref a_o_works, .ref a_o_order, .int o_falling])), (a_o_skillTold, .inl (cI, 72, .inl o_skillTold)), (a_o_placeTold, .inl (cI, 12, .inl o_placeTold)), (a_o_wheelTold, .inl (cI, 12, .inl o_wheelTold)), (a_o_s, .inl (cI, 105, .inl (upd (upd o_s ((14 : Int32) + l1).toNatClampNeg (o_wheelTold l1.toNatClampNeg)) ((20 : Int32) + l1).toNatClampNeg (o_placeTold l1.toNatClampNeg))))] := hD
      refine lv_aload_n hx hb dX5_begins_59 rfl (lv_at hl 0 rfl) ?_
      refine va_get (D := (dC, dI)) (ci := 5) (v := .ref a_o_s) (C := RX5) (T := TX5) (N := 29) hx hb hts uX5_begins_X5 hown hK hP 0 rfl rfl 21 (by decide) (hts _ mX5_begins_0) (fun _ h9 => h9) rfl dX5_begins_60 ?_
      refine lv_bipush (v := (26 : Int32)) hx hb dX5_begins_63 (by decide) ?_
      refine lv_iload_n hx hb dX5_begins_65 rfl (lv_at hl 1 rfl) ?_
      refine lv_iadd hx hb dX5_begins_66 ?_
      refine lv_bipush (v := (-9 : Int32)) hx hb dX5_begins_67 (by decide) ?_
      obtain ⟨h_6, hf⟩ := pgd hf
      refine va_iast hx hb hK hP hD hS 4 1 rfl rfl h_6 dX5_begins_69 (fun H locs hP hD hS => ?_)
      have hP : va_P (dC, dI) vwCl [(a_o, .inr (5, [.int o_thrown, .long o_trace, .ref a_o_text, .int o_typed, .int o_next, .int o_token, .int o_place, .int o_value, .int o_fault, .ref a_o_need, .ref a_o_made, .ref a_o_skillTold, .ref a_o_placeTold, .ref a_o_skips, .ref a_o_wheelTold, .int o_trades, .int o_people, .int o_draftTrades, .int o_draftPeople, .int o_isShut, .ref a_o_tunes, .ref a_o_s, .ref a_o_spare, .ref a_o_kept, .ref a_o_isKept, .ref a_o_makes, .ref a_o_works, .ref a_o_order, .int o_falling])), (a_o_skillTold, .inl (cI, 72, .inl o_skillTold)), (a_o_placeTold, .inl (cI, 12, .inl o_placeTold)), (a_o_wheelTold, .inl (cI, 12, .inl o_wheelTold)), (a_o_s, .inl (cI, 105, .inl (upd (upd (upd o_s ((14 : Int32) + l1).toNatClampNeg (o_wheelTold l1.toNatClampNeg)) ((20 : Int32) + l1).toNatClampNeg (o_placeTold l1.toNatClampNeg)) ((26 : Int32) + l1).toNatClampNeg (-9 : Int32))))] H := hP
      have hD : va_D A [(a_o, .inr (5, [.int o_thrown, .long o_trace, .ref a_o_text, .int o_typed, .int o_next, .int o_token, .int o_place, .int o_value, .int o_fault, .ref a_o_need, .ref a_o_made, .ref a_o_skillTold, .ref a_o_placeTold, .ref a_o_skips, .ref a_o_wheelTold, .int o_trades, .int o_people, .int o_draftTrades, .int o_draftPeople, .int o_isShut, .ref a_o_tunes, .ref a_o_s, .ref a_o_spare, .ref a_o_kept, .ref a_o_isKept, .ref a_o_makes, .ref a_o_works, .ref a_o_order, .int o_falling])), (a_o_skillTold, .inl (cI, 72, .inl o_skillTold)), (a_o_placeTold, .inl (cI, 12, .inl o_placeTold)), (a_o_wheelTold, .inl (cI, 12, .inl o_wheelTold)), (a_o_s, .inl (cI, 105, .inl (upd (upd (upd o_s ((14 : Int32) + l1).toNatClampNeg (o_wheelTold l1.toNatClampNeg)) ((20 : Int32) + l1).toNatClampNeg (o_placeTold l1.toNatClampNeg)) ((26 : Int32) + l1).toNatClampNeg (-9 : Int32))))] := hD
      refine lv_iinc (v := (l1 + 1)) (lv' := [(1, .int (l1 + 1)), (0, .ref a_o)]) hx hb dX5_begins_70 hl (k := 1) rfl rfl (by decide) rfl (fun ls hl => ?_)
      refine lv_goto (tgt := 23) hx hb dX5_begins_73 (by decide) ?_
      exact ih _ _ _ _ hf _ _ _ hP hD hS (lv_sub hl [1, 0] rfl) kx
set_option maxHeartbeats 4000000 in
set_option maxRecDepth 100000 in
theorem wX5_begins_78 {p : Program} {l : Launch} {e : Env} {s : State} {m : MethodId} {args : Array Value} {below : List Frame} {meth : Method} {c : Code} {Q : State → Prop} {A : Nat → Prop} {dC : Nat → ClassId} {dI : Nat → Nat → Nat} {Z : gZ} {cC cI cZ cW : ClassId} (hg0 : gX p s m args meth c cX5_begins 2 none wsX5_begins RX5 (dC, dI) Z [(cC, .char), (cI, .int), (cZ, .boolean), (cW, .object RX3)] A) (a_o a_o_text a_o_need a_o_made a_o_skillTold a_o_placeTold a_o_skips a_o_wheelTold a_o_tunes a_o_s a_o_spare a_o_kept a_o_isKept a_o_makes a_o_works a_o_order : Nat) (o_thrown : Int32) (o_trace : Int64) (o_typed : Int32) (o_next : Int32) (o_token : Int32) (o_place : Int32) (o_value : Int32) (o_fault : Int32) (o_trades : Int32) (o_people : Int32) (o_draftTrades : Int32) (o_draftPeople : Int32) (o_isShut : Int32) (o_falling : Int32) (o_skillTold : Nat → Int32) (o_placeTold : Nat → Int32) (o_wheelTold : Nat → Int32)  (N : Nat) : ∀ (n : Nat) (o_s : Nat → Int32) (l1 : Int32) (o_s' : Nat → Int32) (l1' : Int32), fX5_begins_78 N o_skillTold n o_s l1 = some (o_s', l1') → ∀ (H : Heap) (locs : List Loc) (ls : Array Slot), va_P (dC, dI) vwCl [(a_o, .inr (5, [.int o_thrown, .long o_trace, .ref a_o_text, .int o_typed, .int o_next, .int o_token, .int o_place, .int o_value, .int o_fault, .ref a_o_need, .ref a_o_made, .ref a_o_skillTold, .ref a_o_placeTold, .ref a_o_skips, .ref a_o_wheelTold, .int o_trades, .int o_people, .int o_draftTrades, .int o_draftPeople, .int o_isShut, .ref a_o_tunes, .ref a_o_s, .ref a_o_spare, .ref a_o_kept, .ref a_o_isKept, .ref a_o_makes, .ref a_o_works, .ref a_o_order, .int o_falling])), (a_o_skillTold, .inl (cI, 72, .inl o_skillTold)), (a_o_placeTold, .inl (cI, 12, .inl o_placeTold)), (a_o_wheelTold, .inl (cI, 12, .inl o_wheelTold)), (a_o_s, .inl (cI, 105, .inl o_s))] H → va_D A [(a_o, .inr (5, [.int o_thrown, .long o_trace, .ref a_o_text, .int o_typed, .int o_next, .int o_token, .int o_place, .int o_value, .int o_fault, .ref a_o_need, .ref a_o_made, .ref a_o_skillTold, .ref a_o_placeTold, .ref a_o_skips, .ref a_o_wheelTold, .int o_trades, .int o_people, .int o_draftTrades, .int o_draftPeople, .int o_isShut, .ref a_o_tunes, .ref a_o_s, .ref a_o_spare, .ref a_o_kept, .ref a_o_isKept, .ref a_o_makes, .ref a_o_works, .ref a_o_order, .int o_falling])), (a_o_skillTold, .inl (cI, 72, .inl o_skillTold)), (a_o_placeTold, .inl (cI, 12, .inl o_placeTold)), (a_o_wheelTold, .inl (cI, 12, .inl o_wheelTold)), (a_o_s, .inl (cI, 105, .inl o_s))] → va_S A s.heap H locs → lv_has ls 2 [(0, .ref a_o), (1, .int l1)] → (∀ (H : Heap) (locs : List Loc) (ls : Array Slot), va_P (dC, dI) vwCl [(a_o, .inr (5, [.int o_thrown, .long o_trace, .ref a_o_text, .int o_typed, .int o_next, .int o_token, .int o_place, .int o_value, .int o_fault, .ref a_o_need, .ref a_o_made, .ref a_o_skillTold, .ref a_o_placeTold, .ref a_o_skips, .ref a_o_wheelTold, .int o_trades, .int o_people, .int o_draftTrades, .int o_draftPeople, .int o_isShut, .ref a_o_tunes, .ref a_o_s, .ref a_o_spare, .ref a_o_kept, .ref a_o_isKept, .ref a_o_makes, .ref a_o_works, .ref a_o_order, .int o_falling])), (a_o_skillTold, .inl (cI, 72, .inl o_skillTold)), (a_o_placeTold, .inl (cI, 12, .inl o_placeTold)), (a_o_wheelTold, .inl (cI, 12, .inl o_wheelTold)), (a_o_s, .inl (cI, 105, .inl o_s'))] H → va_D A [(a_o, .inr (5, [.int o_thrown, .long o_trace, .ref a_o_text, .int o_typed, .int o_next, .int o_token, .int o_place, .int o_value, .int o_fault, .ref a_o_need, .ref a_o_made, .ref a_o_skillTold, .ref a_o_placeTold, .ref a_o_skips, .ref a_o_wheelTold, .int o_trades, .int o_people, .int o_draftTrades, .int o_draftPeople, .int o_isShut, .ref a_o_tunes, .ref a_o_s, .ref a_o_spare, .ref a_o_kept, .ref a_o_isKept, .ref a_o_makes, .ref a_o_works, .ref a_o_order, .int o_falling])), (a_o_skillTold, .inl (cI, 72, .inl o_skillTold)), (a_o_placeTold, .inl (cI, 12, .inl o_placeTold)), (a_o_wheelTold, .inl (cI, 12, .inl o_wheelTold)), (a_o_s, .inl (cI, 105, .inl o_s'))] → va_S A s.heap H locs → lv_has ls 2 [] → W p l e (headSpec wsX5_begins rmX5_begins).room s m args below meth c H locs 0 0 Q (F0 m 105 ls [])) → W p l e (headSpec wsX5_begins rmX5_begins).room s m args below meth c H locs 0 0 Q (F0 m 78 ls []) := by
  obtain ⟨hx, hb, hr, hml, hown, hts, hlocks, hA, hK, hN⟩ := id hg0
  have hF : CallFix p m c cX5_begins 2 s args wsX5_begins RX5 := ⟨hx, hb, hml, hown, hts⟩
  intro n
  induction n with
  | zero =>
    intro o_s l1 o_s' l1' hf
    have hf := fX5_begins_78_0.symm.trans hf
    cases hf
  | succ n ih =>
    intro o_s l1 o_s' l1' hf H locs ls hP hD hS hl kx
    have hf := fX5_begins_78_s.symm.trans hf
    refine lv_iload_n hx hb dX5_begins_78 rfl (lv_at hl 1 rfl) ?_
    refine lv_bipush (v := (36 : Int32)) hx hb dX5_begins_79 (by decide) ?_
    refine lv_icmp_ge (tgt := 105) hx hb dX5_begins_81 (by decide) (fun c_1 => ?_) (fun c_1 => ?_)
    · have hf := pit hf c_1
      have q0 := Option.some.inj hf
      obtain ⟨e0, q1⟩ := Prod.mk.inj q0
      subst e0
      subst q1
      exact kx _ _ _ hP hD hS (lv_sub hl [] rfl)
    · have hf := pif hf c_1
      refine lv_aload_n hx hb dX5_begins_84 rfl (lv_at hl 0 rfl) ?_
      refine va_get (D := (dC, dI)) (ci := 5) (v := .ref a_o_s) (C := RX5) (T := TX5) (N := 29) hx hb hts uX5_begins_X5 hown hK hP 0 rfl rfl 21 (by decide) (hts _ mX5_begins_0) (fun _ h9 => h9) rfl dX5_begins_85 ?_
      refine lv_bipush (v := (33 : Int32)) hx hb dX5_begins_88 (by decide) ?_
      refine lv_iload_n hx hb dX5_begins_90 rfl (lv_at hl 1 rfl) ?_
      refine lv_iadd hx hb dX5_begins_91 ?_
      refine lv_aload_n hx hb dX5_begins_92 rfl (lv_at hl 0 rfl) ?_
      refine va_get (D := (dC, dI)) (ci := 5) (v := .ref a_o_skillTold) (C := RX5) (T := TX5) (N := 29) hx hb hts uX5_begins_X5 hown hK hP 0 rfl rfl 11 (by decide) (hts _ mX5_begins_3) (fun _ h9 => h9) rfl dX5_begins_93 ?_
      refine lv_iload_n hx hb dX5_begins_96 rfl (lv_at hl 1 rfl) ?_
      obtain ⟨h_2, hf⟩ := pgd hf
      refine va_iald hx hb hK hP 1 1 rfl rfl h_2 dX5_begins_97 ?_
      obtain ⟨h_3, hf⟩ := pgd hf
      refine va_iast hx hb hK hP hD hS 4 1 rfl rfl h_3 dX5_begins_98 (fun H locs hP hD hS => ?_)
      have hP : va_P (dC, dI) vwCl [(a_o, .inr (5, [.int o_thrown, .long o_trace, .ref a_o_text, .int o_typed, .int o_next, .int o_token, .int o_place, .int o_value, .int o_fault, .ref a_o_need, .ref a_o_made, .ref a_o_skillTold, .ref a_o_placeTold, .ref a_o_skips, .ref a_o_wheelTold, .int o_trades, .int o_people, .int o_draftTrades, .int o_draftPeople, .int o_isShut, .ref a_o_tunes, .ref a_o_s, .ref a_o_spare, .ref a_o_kept, .ref a_o_isKept, .ref a_o_makes, .ref a_o_works, .ref a_o_order, .int o_falling])), (a_o_skillTold, .inl (cI, 72, .inl o_skillTold)), (a_o_placeTold, .inl (cI, 12, .inl o_placeTold)), (a_o_wheelTold, .inl (cI, 12, .inl o_wheelTold)), (a_o_s, .inl (cI, 105, .inl (upd o_s ((33 : Int32) + l1).toNatClampNeg (o_skillTold l1.toNatClampNeg))))] H := hP
      have hD : va_D A [(a_o, .inr (5, [.int o_thrown, .long o_trace, .ref a_o_text, .int o_typed, .int o_next, .int o_token, .int o_place, .int o_value, .int o_fault, .ref a_o_need, .ref a_o_made, .ref a_o_skillTold, .ref a_o_placeTold, .ref a_o_skips, .ref a_o_wheelTold, .int o_trades, .int o_people, .int o_draftTrades, .int o_draftPeople, .int o_isShut, .ref a_o_tunes, .ref a_o_s, .ref a_o_spare, .ref a_o_kept, .ref a_o_isKept, .ref a_o_makes, .ref a_o_works, .ref a_o_order, .int o_falling])), (a_o_skillTold, .inl (cI, 72, .inl o_skillTold)), (a_o_placeTold, .inl (cI, 12, .inl o_placeTold)), (a_o_wheelTold, .inl (cI, 12, .inl o_wheelTold)), (a_o_s, .inl (cI, 105, .inl (upd o_s ((33 : Int32) + l1).toNatClampNeg (o_skillTold l1.toNatClampNeg))))] := hD
      refine lv_iinc (v := (l1 + 1)) (lv' := [(1, .int (l1 + 1)), (0, .ref a_o)]) hx hb dX5_begins_99 hl (k := 1) rfl rfl (by decide) rfl (fun ls hl => ?_)
      refine lv_goto (tgt := 78) hx hb dX5_begins_102 (by decide) ?_
      exact ih _ _ _ _ hf _ _ _ hP hD hS (lv_sub hl [1, 0] rfl) kx
set_option maxHeartbeats 4000000 in
set_option maxRecDepth 100000 in
theorem kX5_begins (l : Launch) (dC : Nat → ClassId) (dI : Nat → Nat → Nat) (Z : gZ) (cC cI cZ cW : ClassId) (a_o a_o_text a_o_need a_o_made a_o_skillTold a_o_placeTold a_o_skips a_o_wheelTold a_o_tunes a_o_s a_o_spare a_o_kept a_o_isKept a_o_makes a_o_works a_o_order : Nat) (sz : Nat) (o_thrown : Int32) (o_trace : Int64) (o_typed : Int32) (o_next : Int32) (o_token : Int32) (o_place : Int32) (o_value : Int32) (o_fault : Int32) (o_trades : Int32) (o_people : Int32) (o_draftTrades : Int32) (o_draftPeople : Int32) (o_isShut : Int32) (o_falling : Int32) (o_skillTold : Nat → Int32) (o_placeTold : Nat → Int32) (o_wheelTold : Nat → Int32) (o_s : Nat → Int32)  (N : Nat) (o_s' : Nat → Int32) (hf : fX5_begins N o_skillTold o_placeTold o_wheelTold o_s   = some o_s') : Met l yX5_begins wsX5_begins rmX5_begins (va_Pc [.ref a_o] (gB (dC, dI) Z [(cC, .char), (cI, .int), (cZ, .boolean), (cW, .object RX3)] [(a_o, .inr (5, [.int o_thrown, .long o_trace, .ref a_o_text, .int o_typed, .int o_next, .int o_token, .int o_place, .int o_value, .int o_fault, .ref a_o_need, .ref a_o_made, .ref a_o_skillTold, .ref a_o_placeTold, .ref a_o_skips, .ref a_o_wheelTold, .int o_trades, .int o_people, .int o_draftTrades, .int o_draftPeople, .int o_isShut, .ref a_o_tunes, .ref a_o_s, .ref a_o_spare, .ref a_o_kept, .ref a_o_isKept, .ref a_o_makes, .ref a_o_works, .ref a_o_order, .int o_falling])), (a_o_skillTold, .inl (cI, 72, .inl o_skillTold)), (a_o_placeTold, .inl (cI, 12, .inl o_placeTold)), (a_o_wheelTold, .inl (cI, 12, .inl o_wheelTold)), (a_o_s, .inl (cI, 105, .inl o_s))] sz)) (va_Qv (fun (_ : Unit) => True) (gE (dC, dI) [(a_o, .inr (5, [.int o_thrown, .long o_trace, .ref a_o_text, .int o_typed, .int o_next, .int o_token, .int o_place, .int o_value, .int o_fault, .ref a_o_need, .ref a_o_made, .ref a_o_skillTold, .ref a_o_placeTold, .ref a_o_skips, .ref a_o_wheelTold, .int o_trades, .int o_people, .int o_draftTrades, .int o_draftPeople, .int o_isShut, .ref a_o_tunes, .ref a_o_s, .ref a_o_spare, .ref a_o_kept, .ref a_o_isKept, .ref a_o_makes, .ref a_o_works, .ref a_o_order, .int o_falling])), (a_o_skillTold, .inl (cI, 72, .inl o_skillTold)), (a_o_placeTold, .inl (cI, 12, .inl o_placeTold)), (a_o_wheelTold, .inl (cI, 12, .inl o_wheelTold)), (a_o_s, .inl (cI, 105, .inl o_s'))]) (va_A [(a_o, .inr (5, [.int o_thrown, .long o_trace, .ref a_o_text, .int o_typed, .int o_next, .int o_token, .int o_place, .int o_value, .int o_fault, .ref a_o_need, .ref a_o_made, .ref a_o_skillTold, .ref a_o_placeTold, .ref a_o_skips, .ref a_o_wheelTold, .int o_trades, .int o_people, .int o_draftTrades, .int o_draftPeople, .int o_isShut, .ref a_o_tunes, .ref a_o_s, .ref a_o_spare, .ref a_o_kept, .ref a_o_isKept, .ref a_o_makes, .ref a_o_works, .ref a_o_order, .int o_falling])), (a_o_skillTold, .inl (cI, 72, .inl o_skillTold)), (a_o_placeTold, .inl (cI, 12, .inl o_placeTold)), (a_o_wheelTold, .inl (cI, 12, .inl o_wheelTold)), (a_o_s, .inl (cI, 105, .inl o_s))] sz)) 0 0 (va_A [(a_o, .inr (5, [.int o_thrown, .long o_trace, .ref a_o_text, .int o_typed, .int o_next, .int o_token, .int o_place, .int o_value, .int o_fault, .ref a_o_need, .ref a_o_made, .ref a_o_skillTold, .ref a_o_placeTold, .ref a_o_skips, .ref a_o_wheelTold, .int o_trades, .int o_people, .int o_draftTrades, .int o_draftPeople, .int o_isShut, .ref a_o_tunes, .ref a_o_s, .ref a_o_spare, .ref a_o_kept, .ref a_o_isKept, .ref a_o_makes, .ref a_o_works, .ref a_o_order, .int o_falling])), (a_o_skillTold, .inl (cI, 72, .inl o_skillTold)), (a_o_placeTold, .inl (cI, 12, .inl o_placeTold)), (a_o_wheelTold, .inl (cI, 12, .inl o_wheelTold)), (a_o_s, .inl (cI, 105, .inl o_s))] sz) := by
  refine gMet (cc := cX5_begins) (maxL := 2) (ret := none) (Qc := fun A => va_Qv (fun (_ : Unit) => True) (gE (dC, dI) [(a_o, .inr (5, [.int o_thrown, .long o_trace, .ref a_o_text, .int o_typed, .int o_next, .int o_token, .int o_place, .int o_value, .int o_fault, .ref a_o_need, .ref a_o_made, .ref a_o_skillTold, .ref a_o_placeTold, .ref a_o_skips, .ref a_o_wheelTold, .int o_trades, .int o_people, .int o_draftTrades, .int o_draftPeople, .int o_isShut, .ref a_o_tunes, .ref a_o_s, .ref a_o_spare, .ref a_o_kept, .ref a_o_isKept, .ref a_o_makes, .ref a_o_works, .ref a_o_order, .int o_falling])), (a_o_skillTold, .inl (cI, 72, .inl o_skillTold)), (a_o_placeTold, .inl (cI, 12, .inl o_placeTold)), (a_o_wheelTold, .inl (cI, 12, .inl o_wheelTold)), (a_o_s, .inl (cI, 105, .inl o_s'))]) A) (by decide) rfl (Nat.le_of_ble_eq_true rfl) ?_
  intro p e s m below meth c A ls hg0 _ hsz hP hD hS hl
  have hg0 : gX p s m _ meth c cX5_begins 2 none wsX5_begins RX5 (dC, dI) Z [(cC, .char), (cI, .int), (cZ, .boolean), (cW, .object RX3)] A := hg0
  obtain ⟨hx, hb, hr, hml, hown, hts, hlocks, hA, hK, hN⟩ := id hg0
  subst hsz
  have hF : CallFix p m c cX5_begins 2 s _ wsX5_begins RX5 := ⟨hx, hb, hml, hown, hts⟩
  have hl : lv_has ls 2 [(0, .ref a_o)] := hl
  unfold fX5_begins at hf
  refine lv_iconst (v := (0 : Int32)) hx hb dX5_begins_0 (by decide) ?_
  refine lv_istore_n (lv' := [(1, .int (0 : Int32)), (0, .ref a_o)]) hx hb dX5_begins_1 rfl hl (by decide) rfl (fun ls hl => ?_)
  obtain ⟨o_s_1, l1_2, hc, hf⟩ := pb2 hf
  refine wX5_begins_2 hg0 a_o a_o_text a_o_need a_o_made a_o_skillTold a_o_placeTold a_o_skips a_o_wheelTold a_o_tunes a_o_s a_o_spare a_o_kept a_o_isKept a_o_makes a_o_works a_o_order o_thrown o_trace o_typed o_next o_token o_place o_value o_fault o_trades o_people o_draftTrades o_draftPeople o_isShut o_falling o_skillTold o_placeTold o_wheelTold  N N o_s (0 : Int32) o_s_1 l1_2 hc _ _ _ hP hD hS (lv_sub hl [1, 0] rfl) (fun H locs ls hP hD hS hl => ?_)
  refine lv_iconst (v := (0 : Int32)) hx hb dX5_begins_21 (by decide) ?_
  refine lv_istore_n (lv' := [(1, .int (0 : Int32)), (0, .ref a_o)]) hx hb dX5_begins_22 rfl hl (by decide) rfl (fun ls hl => ?_)
  obtain ⟨o_s_3, l1_4, hc, hf⟩ := pb2 hf
  refine wX5_begins_23 hg0 a_o a_o_text a_o_need a_o_made a_o_skillTold a_o_placeTold a_o_skips a_o_wheelTold a_o_tunes a_o_s a_o_spare a_o_kept a_o_isKept a_o_makes a_o_works a_o_order o_thrown o_trace o_typed o_next o_token o_place o_value o_fault o_trades o_people o_draftTrades o_draftPeople o_isShut o_falling o_skillTold o_placeTold o_wheelTold  N N o_s_1 (0 : Int32) o_s_3 l1_4 hc _ _ _ hP hD hS (lv_sub hl [1, 0] rfl) (fun H locs ls hP hD hS hl => ?_)
  refine lv_iconst (v := (0 : Int32)) hx hb dX5_begins_76 (by decide) ?_
  refine lv_istore_n (lv' := [(1, .int (0 : Int32)), (0, .ref a_o)]) hx hb dX5_begins_77 rfl hl (by decide) rfl (fun ls hl => ?_)
  obtain ⟨o_s_5, l1_6, hc, hf⟩ := pb2 hf
  refine wX5_begins_78 hg0 a_o a_o_text a_o_need a_o_made a_o_skillTold a_o_placeTold a_o_skips a_o_wheelTold a_o_tunes a_o_s a_o_spare a_o_kept a_o_isKept a_o_makes a_o_works a_o_order o_thrown o_trace o_typed o_next o_token o_place o_value o_fault o_trades o_people o_draftTrades o_draftPeople o_isShut o_falling o_skillTold o_placeTold o_wheelTold  N N o_s_3 (0 : Int32) o_s_5 l1_6 hc _ _ _ hP hD hS (lv_sub hl [1, 0] rfl) (fun H locs ls hP hD hS hl => ?_)
  have q0 := Option.some.inj hf
  subst q0
  exact gRv hx hb hr hlocks hP hS dX5_begins_105
abbrev rmX5_isTrade : Room := { frames := 1, cells := 0, slots := 0, locals := 22 }
set_option maxRecDepth 20000 in
theorem uX5_isTrade_X5 : ∀ w ∈ wsX50, w ∈ wsX5_isTrade := by decide +kernel
set_option maxRecDepth 20000 in
theorem mX5_isTrade_0 : (Cond.fieldLink RX5 137 "TradeWheelModel" "trades" "I" : Cond) ∈ wsX5_isTrade := by decide +kernel
set_option maxHeartbeats 4000000 in
set_option maxRecDepth 100000 in
theorem kX5_isTrade (l : Launch) (dC : Nat → ClassId) (dI : Nat → Nat → Nat) (Z : gZ) (cC cI cZ cW : ClassId) (a_o a_o_text a_o_need a_o_made a_o_skillTold a_o_placeTold a_o_skips a_o_wheelTold a_o_tunes a_o_s a_o_spare a_o_kept a_o_isKept a_o_makes a_o_works a_o_order : Nat) (sz : Nat) (o_thrown : Int32) (o_trace : Int64) (o_typed : Int32) (o_next : Int32) (o_token : Int32) (o_place : Int32) (o_value : Int32) (o_fault : Int32) (o_trades : Int32) (o_people : Int32) (o_draftTrades : Int32) (o_draftPeople : Int32) (o_isShut : Int32) (o_falling : Int32) (i1 : Int32) (N : Nat) (r' : Int32) (hf : fX5_isTrade N o_trades  i1 = some r') : Met l yX5_isTrade wsX5_isTrade rmX5_isTrade (va_Pc [.ref a_o, .int i1] (gB (dC, dI) Z [(cC, .char), (cI, .int), (cZ, .boolean), (cW, .object RX3)] [(a_o, .inr (5, [.int o_thrown, .long o_trace, .ref a_o_text, .int o_typed, .int o_next, .int o_token, .int o_place, .int o_value, .int o_fault, .ref a_o_need, .ref a_o_made, .ref a_o_skillTold, .ref a_o_placeTold, .ref a_o_skips, .ref a_o_wheelTold, .int o_trades, .int o_people, .int o_draftTrades, .int o_draftPeople, .int o_isShut, .ref a_o_tunes, .ref a_o_s, .ref a_o_spare, .ref a_o_kept, .ref a_o_isKept, .ref a_o_makes, .ref a_o_works, .ref a_o_order, .int o_falling]))] sz)) (va_Qi (fun (r : Int32) (_ : Unit) => r = r') (gE (dC, dI) [(a_o, .inr (5, [.int o_thrown, .long o_trace, .ref a_o_text, .int o_typed, .int o_next, .int o_token, .int o_place, .int o_value, .int o_fault, .ref a_o_need, .ref a_o_made, .ref a_o_skillTold, .ref a_o_placeTold, .ref a_o_skips, .ref a_o_wheelTold, .int o_trades, .int o_people, .int o_draftTrades, .int o_draftPeople, .int o_isShut, .ref a_o_tunes, .ref a_o_s, .ref a_o_spare, .ref a_o_kept, .ref a_o_isKept, .ref a_o_makes, .ref a_o_works, .ref a_o_order, .int o_falling]))]) (va_A [(a_o, .inr (5, [.int o_thrown, .long o_trace, .ref a_o_text, .int o_typed, .int o_next, .int o_token, .int o_place, .int o_value, .int o_fault, .ref a_o_need, .ref a_o_made, .ref a_o_skillTold, .ref a_o_placeTold, .ref a_o_skips, .ref a_o_wheelTold, .int o_trades, .int o_people, .int o_draftTrades, .int o_draftPeople, .int o_isShut, .ref a_o_tunes, .ref a_o_s, .ref a_o_spare, .ref a_o_kept, .ref a_o_isKept, .ref a_o_makes, .ref a_o_works, .ref a_o_order, .int o_falling]))] sz)) 0 0 (va_A [(a_o, .inr (5, [.int o_thrown, .long o_trace, .ref a_o_text, .int o_typed, .int o_next, .int o_token, .int o_place, .int o_value, .int o_fault, .ref a_o_need, .ref a_o_made, .ref a_o_skillTold, .ref a_o_placeTold, .ref a_o_skips, .ref a_o_wheelTold, .int o_trades, .int o_people, .int o_draftTrades, .int o_draftPeople, .int o_isShut, .ref a_o_tunes, .ref a_o_s, .ref a_o_spare, .ref a_o_kept, .ref a_o_isKept, .ref a_o_makes, .ref a_o_works, .ref a_o_order, .int o_falling]))] sz) := by
  refine gMet (cc := cX5_isTrade) (maxL := 2) (ret := (some .boolean)) (Qc := fun A => va_Qi (fun (r : Int32) (_ : Unit) => r = r') (gE (dC, dI) [(a_o, .inr (5, [.int o_thrown, .long o_trace, .ref a_o_text, .int o_typed, .int o_next, .int o_token, .int o_place, .int o_value, .int o_fault, .ref a_o_need, .ref a_o_made, .ref a_o_skillTold, .ref a_o_placeTold, .ref a_o_skips, .ref a_o_wheelTold, .int o_trades, .int o_people, .int o_draftTrades, .int o_draftPeople, .int o_isShut, .ref a_o_tunes, .ref a_o_s, .ref a_o_spare, .ref a_o_kept, .ref a_o_isKept, .ref a_o_makes, .ref a_o_works, .ref a_o_order, .int o_falling]))]) A) (by decide) rfl (Nat.le_of_ble_eq_true rfl) ?_
  intro p e s m below meth c A ls hg0 _ hsz hP hD hS hl
  have hg0 : gX p s m _ meth c cX5_isTrade 2 (some .boolean) wsX5_isTrade RX5 (dC, dI) Z [(cC, .char), (cI, .int), (cZ, .boolean), (cW, .object RX3)] A := hg0
  obtain ⟨hx, hb, hr, hml, hown, hts, hlocks, hA, hK, hN⟩ := id hg0
  subst hsz
  have hF : CallFix p m c cX5_isTrade 2 s _ wsX5_isTrade RX5 := ⟨hx, hb, hml, hown, hts⟩
  have hl : lv_has ls 2 [(0, .ref a_o), (1, .int i1)] := hl
  unfold fX5_isTrade at hf
  refine lv_iload_n hx hb dX5_isTrade_0 rfl (lv_at hl 1 rfl) ?_
  refine lv_iconst (v := (0 : Int32)) hx hb dX5_isTrade_1 (by decide) ?_
  refine lv_aload_n hx hb dX5_isTrade_2 rfl (lv_at hl 0 rfl) ?_
  refine va_get (D := (dC, dI)) (ci := 5) (v := .int o_trades) (C := RX5) (T := TX5) (N := 29) hx hb hts uX5_isTrade_X5 hown hK hP 0 rfl rfl 15 (by decide) (hts _ mX5_isTrade_0) (fun _ h9 => h9) rfl dX5_isTrade_3 ?_
  refine lv_iconst (v := (1 : Int32)) hx hb dX5_isTrade_6 (by decide) ?_
  refine lv_isub hx hb dX5_isTrade_7 ?_
  obtain ⟨r_1, hc, hf⟩ := pb1 hf
  refine gCi (va_runS (As := [.int i1, .int (0 : Int32), .int (o_trades - (1 : Int32))]) (rest := []) hF (kX5_in l dC dI Z cC cI cZ cW  _  i1 (0 : Int32) (o_trades - (1 : Int32)) N r_1 hc) (cwS 3 hts gX5_isTrade_X5_in rfl rfl rfl (by decide +kernel) ⟨Nat.le_of_ble_eq_true rfl, Nat.le_of_ble_eq_true rfl⟩) (gPS (wc := []) hK hN hA hS hP hD [] rfl rfl) rfl rfl hl.1 rfl (lv_room (Nat.le_of_ble_eq_true rfl)) dX5_isTrade_8 ⟨Nat.zero_le _, Nat.zero_le _⟩) hP hD hS hA [] rfl rfl rfl (fun H locs hP hD hS => ?_)
  have hP : va_P (dC, dI) vwCl [(a_o, .inr (5, [.int o_thrown, .long o_trace, .ref a_o_text, .int o_typed, .int o_next, .int o_token, .int o_place, .int o_value, .int o_fault, .ref a_o_need, .ref a_o_made, .ref a_o_skillTold, .ref a_o_placeTold, .ref a_o_skips, .ref a_o_wheelTold, .int o_trades, .int o_people, .int o_draftTrades, .int o_draftPeople, .int o_isShut, .ref a_o_tunes, .ref a_o_s, .ref a_o_spare, .ref a_o_kept, .ref a_o_isKept, .ref a_o_makes, .ref a_o_works, .ref a_o_order, .int o_falling]))] H := hP
  have hD : va_D A [(a_o, .inr (5, [.int o_thrown, .long o_trace, .ref a_o_text, .int o_typed, .int o_next, .int o_token, .int o_place, .int o_value, .int o_fault, .ref a_o_need, .ref a_o_made, .ref a_o_skillTold, .ref a_o_placeTold, .ref a_o_skips, .ref a_o_wheelTold, .int o_trades, .int o_people, .int o_draftTrades, .int o_draftPeople, .int o_isShut, .ref a_o_tunes, .ref a_o_s, .ref a_o_spare, .ref a_o_kept, .ref a_o_isKept, .ref a_o_makes, .ref a_o_works, .ref a_o_order, .int o_falling]))] := hD
  obtain ⟨hbz, hf⟩ := pgb hf
  have q0 := Option.some.inj hf
  subst q0
  exact gRz hx hb hr (nar_b hbz) hlocks hP hS dX5_isTrade_11
abbrev rmX5_isPerson : Room := { frames := 1, cells := 0, slots := 0, locals := 22 }
set_option maxRecDepth 20000 in
theorem uX5_isPerson_X5 : ∀ w ∈ wsX50, w ∈ wsX5_isPerson := by decide +kernel
set_option maxRecDepth 20000 in
theorem mX5_isPerson_0 : (Cond.fieldLink RX5 140 "TradeWheelModel" "people" "I" : Cond) ∈ wsX5_isPerson := by decide +kernel
set_option maxHeartbeats 4000000 in
set_option maxRecDepth 100000 in
theorem kX5_isPerson (l : Launch) (dC : Nat → ClassId) (dI : Nat → Nat → Nat) (Z : gZ) (cC cI cZ cW : ClassId) (a_o a_o_text a_o_need a_o_made a_o_skillTold a_o_placeTold a_o_skips a_o_wheelTold a_o_tunes a_o_s a_o_spare a_o_kept a_o_isKept a_o_makes a_o_works a_o_order : Nat) (sz : Nat) (o_thrown : Int32) (o_trace : Int64) (o_typed : Int32) (o_next : Int32) (o_token : Int32) (o_place : Int32) (o_value : Int32) (o_fault : Int32) (o_trades : Int32) (o_people : Int32) (o_draftTrades : Int32) (o_draftPeople : Int32) (o_isShut : Int32) (o_falling : Int32) (i1 : Int32) (N : Nat) (r' : Int32) (hf : fX5_isPerson N o_people  i1 = some r') : Met l yX5_isPerson wsX5_isPerson rmX5_isPerson (va_Pc [.ref a_o, .int i1] (gB (dC, dI) Z [(cC, .char), (cI, .int), (cZ, .boolean), (cW, .object RX3)] [(a_o, .inr (5, [.int o_thrown, .long o_trace, .ref a_o_text, .int o_typed, .int o_next, .int o_token, .int o_place, .int o_value, .int o_fault, .ref a_o_need, .ref a_o_made, .ref a_o_skillTold, .ref a_o_placeTold, .ref a_o_skips, .ref a_o_wheelTold, .int o_trades, .int o_people, .int o_draftTrades, .int o_draftPeople, .int o_isShut, .ref a_o_tunes, .ref a_o_s, .ref a_o_spare, .ref a_o_kept, .ref a_o_isKept, .ref a_o_makes, .ref a_o_works, .ref a_o_order, .int o_falling]))] sz)) (va_Qi (fun (r : Int32) (_ : Unit) => r = r') (gE (dC, dI) [(a_o, .inr (5, [.int o_thrown, .long o_trace, .ref a_o_text, .int o_typed, .int o_next, .int o_token, .int o_place, .int o_value, .int o_fault, .ref a_o_need, .ref a_o_made, .ref a_o_skillTold, .ref a_o_placeTold, .ref a_o_skips, .ref a_o_wheelTold, .int o_trades, .int o_people, .int o_draftTrades, .int o_draftPeople, .int o_isShut, .ref a_o_tunes, .ref a_o_s, .ref a_o_spare, .ref a_o_kept, .ref a_o_isKept, .ref a_o_makes, .ref a_o_works, .ref a_o_order, .int o_falling]))]) (va_A [(a_o, .inr (5, [.int o_thrown, .long o_trace, .ref a_o_text, .int o_typed, .int o_next, .int o_token, .int o_place, .int o_value, .int o_fault, .ref a_o_need, .ref a_o_made, .ref a_o_skillTold, .ref a_o_placeTold, .ref a_o_skips, .ref a_o_wheelTold, .int o_trades, .int o_people, .int o_draftTrades, .int o_draftPeople, .int o_isShut, .ref a_o_tunes, .ref a_o_s, .ref a_o_spare, .ref a_o_kept, .ref a_o_isKept, .ref a_o_makes, .ref a_o_works, .ref a_o_order, .int o_falling]))] sz)) 0 0 (va_A [(a_o, .inr (5, [.int o_thrown, .long o_trace, .ref a_o_text, .int o_typed, .int o_next, .int o_token, .int o_place, .int o_value, .int o_fault, .ref a_o_need, .ref a_o_made, .ref a_o_skillTold, .ref a_o_placeTold, .ref a_o_skips, .ref a_o_wheelTold, .int o_trades, .int o_people, .int o_draftTrades, .int o_draftPeople, .int o_isShut, .ref a_o_tunes, .ref a_o_s, .ref a_o_spare, .ref a_o_kept, .ref a_o_isKept, .ref a_o_makes, .ref a_o_works, .ref a_o_order, .int o_falling]))] sz) := by
  refine gMet (cc := cX5_isPerson) (maxL := 2) (ret := (some .boolean)) (Qc := fun A => va_Qi (fun (r : Int32) (_ : Unit) => r = r') (gE (dC, dI) [(a_o, .inr (5, [.int o_thrown, .long o_trace, .ref a_o_text, .int o_typed, .int o_next, .int o_token, .int o_place, .int o_value, .int o_fault, .ref a_o_need, .ref a_o_made, .ref a_o_skillTold, .ref a_o_placeTold, .ref a_o_skips, .ref a_o_wheelTold, .int o_trades, .int o_people, .int o_draftTrades, .int o_draftPeople, .int o_isShut, .ref a_o_tunes, .ref a_o_s, .ref a_o_spare, .ref a_o_kept, .ref a_o_isKept, .ref a_o_makes, .ref a_o_works, .ref a_o_order, .int o_falling]))]) A) (by decide) rfl (Nat.le_of_ble_eq_true rfl) ?_
  intro p e s m below meth c A ls hg0 _ hsz hP hD hS hl
  have hg0 : gX p s m _ meth c cX5_isPerson 2 (some .boolean) wsX5_isPerson RX5 (dC, dI) Z [(cC, .char), (cI, .int), (cZ, .boolean), (cW, .object RX3)] A := hg0
  obtain ⟨hx, hb, hr, hml, hown, hts, hlocks, hA, hK, hN⟩ := id hg0
  subst hsz
  have hF : CallFix p m c cX5_isPerson 2 s _ wsX5_isPerson RX5 := ⟨hx, hb, hml, hown, hts⟩
  have hl : lv_has ls 2 [(0, .ref a_o), (1, .int i1)] := hl
  unfold fX5_isPerson at hf
  refine lv_iload_n hx hb dX5_isPerson_0 rfl (lv_at hl 1 rfl) ?_
  refine lv_iconst (v := (0 : Int32)) hx hb dX5_isPerson_1 (by decide) ?_
  refine lv_aload_n hx hb dX5_isPerson_2 rfl (lv_at hl 0 rfl) ?_
  refine va_get (D := (dC, dI)) (ci := 5) (v := .int o_people) (C := RX5) (T := TX5) (N := 29) hx hb hts uX5_isPerson_X5 hown hK hP 0 rfl rfl 16 (by decide) (hts _ mX5_isPerson_0) (fun _ h9 => h9) rfl dX5_isPerson_3 ?_
  refine lv_iconst (v := (1 : Int32)) hx hb dX5_isPerson_6 (by decide) ?_
  refine lv_isub hx hb dX5_isPerson_7 ?_
  obtain ⟨r_1, hc, hf⟩ := pb1 hf
  refine gCi (va_runS (As := [.int i1, .int (0 : Int32), .int (o_people - (1 : Int32))]) (rest := []) hF (kX5_in l dC dI Z cC cI cZ cW  _  i1 (0 : Int32) (o_people - (1 : Int32)) N r_1 hc) (cwS 3 hts gX5_isPerson_X5_in rfl rfl rfl (by decide +kernel) ⟨Nat.le_of_ble_eq_true rfl, Nat.le_of_ble_eq_true rfl⟩) (gPS (wc := []) hK hN hA hS hP hD [] rfl rfl) rfl rfl hl.1 rfl (lv_room (Nat.le_of_ble_eq_true rfl)) dX5_isPerson_8 ⟨Nat.zero_le _, Nat.zero_le _⟩) hP hD hS hA [] rfl rfl rfl (fun H locs hP hD hS => ?_)
  have hP : va_P (dC, dI) vwCl [(a_o, .inr (5, [.int o_thrown, .long o_trace, .ref a_o_text, .int o_typed, .int o_next, .int o_token, .int o_place, .int o_value, .int o_fault, .ref a_o_need, .ref a_o_made, .ref a_o_skillTold, .ref a_o_placeTold, .ref a_o_skips, .ref a_o_wheelTold, .int o_trades, .int o_people, .int o_draftTrades, .int o_draftPeople, .int o_isShut, .ref a_o_tunes, .ref a_o_s, .ref a_o_spare, .ref a_o_kept, .ref a_o_isKept, .ref a_o_makes, .ref a_o_works, .ref a_o_order, .int o_falling]))] H := hP
  have hD : va_D A [(a_o, .inr (5, [.int o_thrown, .long o_trace, .ref a_o_text, .int o_typed, .int o_next, .int o_token, .int o_place, .int o_value, .int o_fault, .ref a_o_need, .ref a_o_made, .ref a_o_skillTold, .ref a_o_placeTold, .ref a_o_skips, .ref a_o_wheelTold, .int o_trades, .int o_people, .int o_draftTrades, .int o_draftPeople, .int o_isShut, .ref a_o_tunes, .ref a_o_s, .ref a_o_spare, .ref a_o_kept, .ref a_o_isKept, .ref a_o_makes, .ref a_o_works, .ref a_o_order, .int o_falling]))] := hD
  obtain ⟨hbz, hf⟩ := pgb hf
  have q0 := Option.some.inj hf
  subst q0
  exact gRz hx hb hr (nar_b hbz) hlocks hP hS dX5_isPerson_11
abbrev rmX5_trade : Room := { frames := 2, cells := 0, slots := 0, locals := 43 }
set_option maxRecDepth 20000 in
theorem uX5_trade_X5 : ∀ w ∈ wsX50, w ∈ wsX5_trade := by decide +kernel
set_option maxRecDepth 20000 in
theorem mX5_trade_0 : (Cond.fieldLink RX5 59 "TradeWheelModel" "thrown" "I" : Cond) ∈ wsX5_trade := by decide +kernel
set_option maxRecDepth 20000 in
theorem mX5_trade_1 : (Cond.fieldLink RX5 34 "TradeWheelModel" "s" "[I" : Cond) ∈ wsX5_trade := by decide +kernel
set_option maxRecDepth 20000 in
theorem mX5_trade_2 : (Cond.fieldLink RX5 16 "TradeWheelModel" "made" "[I" : Cond) ∈ wsX5_trade := by decide +kernel
set_option maxRecDepth 20000 in
theorem mX5_trade_3 : (Cond.fieldLink RX5 13 "TradeWheelModel" "need" "[I" : Cond) ∈ wsX5_trade := by decide +kernel
set_option maxHeartbeats 4000000 in
set_option maxRecDepth 100000 in
theorem kX5_trade (l : Launch) (dC : Nat → ClassId) (dI : Nat → Nat → Nat) (Z : gZ) (cC cI cZ cW : ClassId) (a_o a_o_text a_o_need a_o_made a_o_skillTold a_o_placeTold a_o_skips a_o_wheelTold a_o_tunes a_o_s a_o_spare a_o_kept a_o_isKept a_o_makes a_o_works a_o_order : Nat) (sz : Nat) (o_thrown : Int32) (o_trace : Int64) (o_typed : Int32) (o_next : Int32) (o_token : Int32) (o_place : Int32) (o_value : Int32) (o_fault : Int32) (o_trades : Int32) (o_people : Int32) (o_draftTrades : Int32) (o_draftPeople : Int32) (o_isShut : Int32) (o_falling : Int32) (o_need : Nat → Int32) (o_made : Nat → Int32) (o_s : Nat → Int32) (i1 : Int32) (i2 : Int32) (N : Nat) (r' : Int32) (o_thrown' : Int32) (hf : fX5_trade N o_thrown o_trades o_need o_made o_s  i1 i2 = some (r', o_thrown')) : Met l yX5_trade wsX5_trade rmX5_trade (va_Pc [.ref a_o, .int i1, .int i2] (gB (dC, dI) Z [(cC, .char), (cI, .int), (cZ, .boolean), (cW, .object RX3)] [(a_o, .inr (5, [.int o_thrown, .long o_trace, .ref a_o_text, .int o_typed, .int o_next, .int o_token, .int o_place, .int o_value, .int o_fault, .ref a_o_need, .ref a_o_made, .ref a_o_skillTold, .ref a_o_placeTold, .ref a_o_skips, .ref a_o_wheelTold, .int o_trades, .int o_people, .int o_draftTrades, .int o_draftPeople, .int o_isShut, .ref a_o_tunes, .ref a_o_s, .ref a_o_spare, .ref a_o_kept, .ref a_o_isKept, .ref a_o_makes, .ref a_o_works, .ref a_o_order, .int o_falling])), (a_o_need, .inl (cI, 12, .inl o_need)), (a_o_made, .inl (cI, 12, .inl o_made)), (a_o_s, .inl (cI, 105, .inl o_s))] sz)) (va_Qi (fun (r : Int32) (_ : Unit) => r = r') (gE (dC, dI) [(a_o, .inr (5, [.int o_thrown', .long o_trace, .ref a_o_text, .int o_typed, .int o_next, .int o_token, .int o_place, .int o_value, .int o_fault, .ref a_o_need, .ref a_o_made, .ref a_o_skillTold, .ref a_o_placeTold, .ref a_o_skips, .ref a_o_wheelTold, .int o_trades, .int o_people, .int o_draftTrades, .int o_draftPeople, .int o_isShut, .ref a_o_tunes, .ref a_o_s, .ref a_o_spare, .ref a_o_kept, .ref a_o_isKept, .ref a_o_makes, .ref a_o_works, .ref a_o_order, .int o_falling])), (a_o_need, .inl (cI, 12, .inl o_need)), (a_o_made, .inl (cI, 12, .inl o_made)), (a_o_s, .inl (cI, 105, .inl o_s))]) (va_A [(a_o, .inr (5, [.int o_thrown, .long o_trace, .ref a_o_text, .int o_typed, .int o_next, .int o_token, .int o_place, .int o_value, .int o_fault, .ref a_o_need, .ref a_o_made, .ref a_o_skillTold, .ref a_o_placeTold, .ref a_o_skips, .ref a_o_wheelTold, .int o_trades, .int o_people, .int o_draftTrades, .int o_draftPeople, .int o_isShut, .ref a_o_tunes, .ref a_o_s, .ref a_o_spare, .ref a_o_kept, .ref a_o_isKept, .ref a_o_makes, .ref a_o_works, .ref a_o_order, .int o_falling])), (a_o_need, .inl (cI, 12, .inl o_need)), (a_o_made, .inl (cI, 12, .inl o_made)), (a_o_s, .inl (cI, 105, .inl o_s))] sz)) 0 0 (va_A [(a_o, .inr (5, [.int o_thrown, .long o_trace, .ref a_o_text, .int o_typed, .int o_next, .int o_token, .int o_place, .int o_value, .int o_fault, .ref a_o_need, .ref a_o_made, .ref a_o_skillTold, .ref a_o_placeTold, .ref a_o_skips, .ref a_o_wheelTold, .int o_trades, .int o_people, .int o_draftTrades, .int o_draftPeople, .int o_isShut, .ref a_o_tunes, .ref a_o_s, .ref a_o_spare, .ref a_o_kept, .ref a_o_isKept, .ref a_o_makes, .ref a_o_works, .ref a_o_order, .int o_falling])), (a_o_need, .inl (cI, 12, .inl o_need)), (a_o_made, .inl (cI, 12, .inl o_made)), (a_o_s, .inl (cI, 105, .inl o_s))] sz) := by
  refine gMet (cc := cX5_trade) (maxL := 3) (ret := (some .int)) (Qc := fun A => va_Qi (fun (r : Int32) (_ : Unit) => r = r') (gE (dC, dI) [(a_o, .inr (5, [.int o_thrown', .long o_trace, .ref a_o_text, .int o_typed, .int o_next, .int o_token, .int o_place, .int o_value, .int o_fault, .ref a_o_need, .ref a_o_made, .ref a_o_skillTold, .ref a_o_placeTold, .ref a_o_skips, .ref a_o_wheelTold, .int o_trades, .int o_people, .int o_draftTrades, .int o_draftPeople, .int o_isShut, .ref a_o_tunes, .ref a_o_s, .ref a_o_spare, .ref a_o_kept, .ref a_o_isKept, .ref a_o_makes, .ref a_o_works, .ref a_o_order, .int o_falling])), (a_o_need, .inl (cI, 12, .inl o_need)), (a_o_made, .inl (cI, 12, .inl o_made)), (a_o_s, .inl (cI, 105, .inl o_s))]) A) (by decide) rfl (Nat.le_of_ble_eq_true rfl) ?_
  intro p e s m below meth c A ls hg0 _ hsz hP hD hS hl
  have hg0 : gX p s m _ meth c cX5_trade 3 (some .int) wsX5_trade RX5 (dC, dI) Z [(cC, .char), (cI, .int), (cZ, .boolean), (cW, .object RX3)] A := hg0
  obtain ⟨hx, hb, hr, hml, hown, hts, hlocks, hA, hK, hN⟩ := id hg0
  subst hsz
  have hF : CallFix p m c cX5_trade 3 s _ wsX5_trade RX5 := ⟨hx, hb, hml, hown, hts⟩
  have hl : lv_has ls 3 [(0, .ref a_o), (1, .int i1), (2, .int i2)] := hl
  unfold fX5_trade at hf
  refine lv_aload_n hx hb dX5_trade_0 rfl (lv_at hl 0 rfl) ?_
  refine lv_iconst (v := (0 : Int32)) hx hb dX5_trade_1 (by decide) ?_
  refine va_put (D := (dC, dI)) (ci := 5) (v := .int (0 : Int32)) (ty := .int) (C := RX5) (T := TX5) (N := 29) hx hb hts uX5_trade_X5 tyX5 tyX5_ok nmX5 hown hK hP hD hS 0 rfl rfl 0 (by decide) (hts _ mX5_trade_0) (fun _ h9 => h9) rfl (by decide +kernel) rfl rfl (Nat.le_of_ble_eq_true rfl) dX5_trade_2 (fun H locs hP hD hS => ?_)
  have hP : va_P (dC, dI) vwCl [(a_o, .inr (5, [.int (0 : Int32), .long o_trace, .ref a_o_text, .int o_typed, .int o_next, .int o_token, .int o_place, .int o_value, .int o_fault, .ref a_o_need, .ref a_o_made, .ref a_o_skillTold, .ref a_o_placeTold, .ref a_o_skips, .ref a_o_wheelTold, .int o_trades, .int o_people, .int o_draftTrades, .int o_draftPeople, .int o_isShut, .ref a_o_tunes, .ref a_o_s, .ref a_o_spare, .ref a_o_kept, .ref a_o_isKept, .ref a_o_makes, .ref a_o_works, .ref a_o_order, .int o_falling])), (a_o_need, .inl (cI, 12, .inl o_need)), (a_o_made, .inl (cI, 12, .inl o_made)), (a_o_s, .inl (cI, 105, .inl o_s))] H := hP
  have hD : va_D A [(a_o, .inr (5, [.int (0 : Int32), .long o_trace, .ref a_o_text, .int o_typed, .int o_next, .int o_token, .int o_place, .int o_value, .int o_fault, .ref a_o_need, .ref a_o_made, .ref a_o_skillTold, .ref a_o_placeTold, .ref a_o_skips, .ref a_o_wheelTold, .int o_trades, .int o_people, .int o_draftTrades, .int o_draftPeople, .int o_isShut, .ref a_o_tunes, .ref a_o_s, .ref a_o_spare, .ref a_o_kept, .ref a_o_isKept, .ref a_o_makes, .ref a_o_works, .ref a_o_order, .int o_falling])), (a_o_need, .inl (cI, 12, .inl o_need)), (a_o_made, .inl (cI, 12, .inl o_made)), (a_o_s, .inl (cI, 105, .inl o_s))] := hD
  refine lv_aload_n hx hb dX5_trade_5 rfl (lv_at hl 0 rfl) ?_
  refine lv_iload_n hx hb dX5_trade_6 rfl (lv_at hl 1 rfl) ?_
  obtain ⟨r_1, hc, hf⟩ := pb1 hf
  refine gCi (va_runV (As := [.int i1]) (rest := []) hF (kX5_isTrade l dC dI Z cC cI cZ cW a_o a_o_text a_o_need a_o_made a_o_skillTold a_o_placeTold a_o_skips a_o_wheelTold a_o_tunes a_o_s a_o_spare a_o_kept a_o_isKept a_o_makes a_o_works a_o_order _ (0 : Int32) o_trace o_typed o_next o_token o_place o_value o_fault o_trades o_people o_draftTrades o_draftPeople o_isShut o_falling i1 N r_1 hc) (cwV 1 hts gX5_trade_X5_isTrade rfl rfl rfl (by decide +kernel) ⟨Nat.le_of_ble_eq_true rfl, Nat.le_of_ble_eq_true rfl⟩) (gPV (wc := [(a_o, .inr (5, [.int (0 : Int32), .long o_trace, .ref a_o_text, .int o_typed, .int o_next, .int o_token, .int o_place, .int o_value, .int o_fault, .ref a_o_need, .ref a_o_made, .ref a_o_skillTold, .ref a_o_placeTold, .ref a_o_skips, .ref a_o_wheelTold, .int o_trades, .int o_people, .int o_draftTrades, .int o_draftPeople, .int o_isShut, .ref a_o_tunes, .ref a_o_s, .ref a_o_spare, .ref a_o_kept, .ref a_o_isKept, .ref a_o_makes, .ref a_o_works, .ref a_o_order, .int o_falling]))]) hK hN hA hS hP hD [0] rfl rfl (q0 := 0) (ci := 5) rfl rfl rfl) rfl rfl hl.1 rfl (lv_room (Nat.le_of_ble_eq_true rfl)) dX5_trade_7 ⟨Nat.zero_le _, Nat.zero_le _⟩) hP hD hS hA [0] rfl rfl rfl (fun H locs hP hD hS => ?_)
  have hP : va_P (dC, dI) vwCl [(a_o, .inr (5, [.int (0 : Int32), .long o_trace, .ref a_o_text, .int o_typed, .int o_next, .int o_token, .int o_place, .int o_value, .int o_fault, .ref a_o_need, .ref a_o_made, .ref a_o_skillTold, .ref a_o_placeTold, .ref a_o_skips, .ref a_o_wheelTold, .int o_trades, .int o_people, .int o_draftTrades, .int o_draftPeople, .int o_isShut, .ref a_o_tunes, .ref a_o_s, .ref a_o_spare, .ref a_o_kept, .ref a_o_isKept, .ref a_o_makes, .ref a_o_works, .ref a_o_order, .int o_falling])), (a_o_need, .inl (cI, 12, .inl o_need)), (a_o_made, .inl (cI, 12, .inl o_made)), (a_o_s, .inl (cI, 105, .inl o_s))] H := hP
  have hD : va_D A [(a_o, .inr (5, [.int (0 : Int32), .long o_trace, .ref a_o_text, .int o_typed, .int o_next, .int o_token, .int o_place, .int o_value, .int o_fault, .ref a_o_need, .ref a_o_made, .ref a_o_skillTold, .ref a_o_placeTold, .ref a_o_skips, .ref a_o_wheelTold, .int o_trades, .int o_people, .int o_draftTrades, .int o_draftPeople, .int o_isShut, .ref a_o_tunes, .ref a_o_s, .ref a_o_spare, .ref a_o_kept, .ref a_o_isKept, .ref a_o_makes, .ref a_o_works, .ref a_o_order, .int o_falling])), (a_o_need, .inl (cI, 12, .inl o_need)), (a_o_made, .inl (cI, 12, .inl o_made)), (a_o_s, .inl (cI, 105, .inl o_s))] := hD
  refine lv_if_eq (tgt := 22) hx hb dX5_trade_10 (by decide) (fun c_2 => ?_) (fun c_2 => ?_)
  · have hf := pit hf c_2
    refine lv_iconst (v := (-1 : Int32)) hx hb dX5_trade_22 (by decide) ?_
    have q0 := Option.some.inj hf
    obtain ⟨e0, q1⟩ := Prod.mk.inj q0
    subst e0
    subst q1
    exact gRi hx hb hr hlocks hP hS dX5_trade_23
  · have hf := pif hf c_2
    refine lv_iload_n hx hb dX5_trade_13 rfl (lv_at hl 2 rfl) ?_
    refine lv_iconst (v := (0 : Int32)) hx hb dX5_trade_14 (by decide) ?_
    refine lv_iconst (v := (3 : Int32)) hx hb dX5_trade_15 (by decide) ?_
    obtain ⟨r_3, hc, hf⟩ := pb1 hf
    refine gCi (va_runS (As := [.int i2, .int (0 : Int32), .int (3 : Int32)]) (rest := []) hF (kX5_in l dC dI Z cC cI cZ cW  _  i2 (0 : Int32) (3 : Int32) N r_3 hc) (cwS 3 hts gX5_trade_X5_in rfl rfl rfl (by decide +kernel) ⟨Nat.le_of_ble_eq_true rfl, Nat.le_of_ble_eq_true rfl⟩) (gPS (wc := []) hK hN hA hS hP hD [] rfl rfl) rfl rfl hl.1 rfl (lv_room (Nat.le_of_ble_eq_true rfl)) dX5_trade_16 ⟨Nat.zero_le _, Nat.zero_le _⟩) hP hD hS hA [] rfl rfl rfl (fun H locs hP hD hS => ?_)
    have hP : va_P (dC, dI) vwCl [(a_o, .inr (5, [.int (0 : Int32), .long o_trace, .ref a_o_text, .int o_typed, .int o_next, .int o_token, .int o_place, .int o_value, .int o_fault, .ref a_o_need, .ref a_o_made, .ref a_o_skillTold, .ref a_o_placeTold, .ref a_o_skips, .ref a_o_wheelTold, .int o_trades, .int o_people, .int o_draftTrades, .int o_draftPeople, .int o_isShut, .ref a_o_tunes, .ref a_o_s, .ref a_o_spare, .ref a_o_kept, .ref a_o_isKept, .ref a_o_makes, .ref a_o_works, .ref a_o_order, .int o_falling])), (a_o_need, .inl (cI, 12, .inl o_need)), (a_o_made, .inl (cI, 12, .inl o_made)), (a_o_s, .inl (cI, 105, .inl o_s))] H := hP
    have hD : va_D A [(a_o, .inr (5, [.int (0 : Int32), .long o_trace, .ref a_o_text, .int o_typed, .int o_next, .int o_token, .int o_place, .int o_value, .int o_fault, .ref a_o_need, .ref a_o_made, .ref a_o_skillTold, .ref a_o_placeTold, .ref a_o_skips, .ref a_o_wheelTold, .int o_trades, .int o_people, .int o_draftTrades, .int o_draftPeople, .int o_isShut, .ref a_o_tunes, .ref a_o_s, .ref a_o_spare, .ref a_o_kept, .ref a_o_isKept, .ref a_o_makes, .ref a_o_works, .ref a_o_order, .int o_falling])), (a_o_need, .inl (cI, 12, .inl o_need)), (a_o_made, .inl (cI, 12, .inl o_made)), (a_o_s, .inl (cI, 105, .inl o_s))] := hD
    refine lv_if_ne (tgt := 24) hx hb dX5_trade_19 (by decide) (fun c_4 => ?_) (fun c_4 => ?_)
    · have hf := pif hf c_4
      refine lv_iload_n hx hb dX5_trade_24 rfl (lv_at hl 2 rfl) ?_
      refine lv_if_ne (tgt := 37) hx hb dX5_trade_25 (by decide) (fun c_5 => ?_) (fun c_5 => ?_)
      · have hf := pif hf c_5
        refine lv_iload_n hx hb dX5_trade_37 rfl (lv_at hl 2 rfl) ?_
        refine lv_iconst (v := (1 : Int32)) hx hb dX5_trade_38 (by decide) ?_
        refine lv_icmp_ne (tgt := 51) hx hb dX5_trade_39 (by decide) (fun c_6 => ?_) (fun c_6 => ?_)
        · have hf := pif hf c_6
          refine lv_iload_n hx hb dX5_trade_51 rfl (lv_at hl 2 rfl) ?_
          refine lv_iconst (v := (2 : Int32)) hx hb dX5_trade_52 (by decide) ?_
          refine lv_icmp_ne (tgt := 67) hx hb dX5_trade_53 (by decide) (fun c_7 => ?_) (fun c_7 => ?_)
          · have hf := pif hf c_7
            refine lv_aload_n hx hb dX5_trade_67 rfl (lv_at hl 0 rfl) ?_
            refine va_get (D := (dC, dI)) (ci := 5) (v := .ref a_o_s) (C := RX5) (T := TX5) (N := 29) hx hb hts uX5_trade_X5 hown hK hP 0 rfl rfl 21 (by decide) (hts _ mX5_trade_1) (fun _ h9 => h9) rfl dX5_trade_68 ?_
            refine lv_bipush (v := (8 : Int32)) hx hb dX5_trade_71 (by decide) ?_
            refine lv_iload_n hx hb dX5_trade_73 rfl (lv_at hl 1 rfl) ?_
            refine lv_iadd hx hb dX5_trade_74 ?_
            obtain ⟨h_8, hf⟩ := pgd hf
            refine va_iald hx hb hK hP 3 1 rfl rfl h_8 dX5_trade_75 ?_
            have q0 := Option.some.inj hf
            obtain ⟨e0, q1⟩ := Prod.mk.inj q0
            subst e0
            subst q1
            exact gRi hx hb hr hlocks hP hS dX5_trade_76
          · have hf := pit hf c_7
            refine lv_aload_n hx hb dX5_trade_56 rfl (lv_at hl 0 rfl) ?_
            refine va_get (D := (dC, dI)) (ci := 5) (v := .ref a_o_s) (C := RX5) (T := TX5) (N := 29) hx hb hts uX5_trade_X5 hown hK hP 0 rfl rfl 21 (by decide) (hts _ mX5_trade_1) (fun _ h9 => h9) rfl dX5_trade_57 ?_
            refine lv_iconst (v := (2 : Int32)) hx hb dX5_trade_60 (by decide) ?_
            refine lv_iload_n hx hb dX5_trade_61 rfl (lv_at hl 1 rfl) ?_
            refine lv_iadd hx hb dX5_trade_62 ?_
            obtain ⟨h_9, hf⟩ := pgd hf
            refine va_iald hx hb hK hP 3 1 rfl rfl h_9 dX5_trade_63 ?_
            refine lv_goto (tgt := 76) hx hb dX5_trade_64 (by decide) ?_
            have q0 := Option.some.inj hf
            obtain ⟨e0, q1⟩ := Prod.mk.inj q0
            subst e0
            subst q1
            exact gRi hx hb hr hlocks hP hS dX5_trade_76
        · have hf := pit hf c_6
          refine lv_aload_n hx hb dX5_trade_42 rfl (lv_at hl 0 rfl) ?_
          refine va_get (D := (dC, dI)) (ci := 5) (v := .ref a_o_made) (C := RX5) (T := TX5) (N := 29) hx hb hts uX5_trade_X5 hown hK hP 0 rfl rfl 10 (by decide) (hts _ mX5_trade_2) (fun _ h9 => h9) rfl dX5_trade_43 ?_
          refine lv_iload_n hx hb dX5_trade_46 rfl (lv_at hl 1 rfl) ?_
          obtain ⟨h_10, hf⟩ := pgd hf
          refine va_iald hx hb hK hP 2 1 rfl rfl h_10 dX5_trade_47 ?_
          refine lv_goto (tgt := 76) hx hb dX5_trade_48 (by decide) ?_
          have q0 := Option.some.inj hf
          obtain ⟨e0, q1⟩ := Prod.mk.inj q0
          subst e0
          subst q1
          exact gRi hx hb hr hlocks hP hS dX5_trade_76
      · have hf := pit hf c_5
        refine lv_aload_n hx hb dX5_trade_28 rfl (lv_at hl 0 rfl) ?_
        refine va_get (D := (dC, dI)) (ci := 5) (v := .ref a_o_need) (C := RX5) (T := TX5) (N := 29) hx hb hts uX5_trade_X5 hown hK hP 0 rfl rfl 9 (by decide) (hts _ mX5_trade_3) (fun _ h9 => h9) rfl dX5_trade_29 ?_
        refine lv_iload_n hx hb dX5_trade_32 rfl (lv_at hl 1 rfl) ?_
        obtain ⟨h_11, hf⟩ := pgd hf
        refine va_iald hx hb hK hP 1 1 rfl rfl h_11 dX5_trade_33 ?_
        refine lv_goto (tgt := 76) hx hb dX5_trade_34 (by decide) ?_
        have q0 := Option.some.inj hf
        obtain ⟨e0, q1⟩ := Prod.mk.inj q0
        subst e0
        subst q1
        exact gRi hx hb hr hlocks hP hS dX5_trade_76
    · have hf := pit hf c_4
      refine lv_iconst (v := (-1 : Int32)) hx hb dX5_trade_22 (by decide) ?_
      have q0 := Option.some.inj hf
      obtain ⟨e0, q1⟩ := Prod.mk.inj q0
      subst e0
      subst q1
      exact gRi hx hb hr hlocks hP hS dX5_trade_23
abbrev rmX5_skill : Room := { frames := 2, cells := 0, slots := 0, locals := 43 }
set_option maxRecDepth 20000 in
theorem uX5_skill_X5 : ∀ w ∈ wsX50, w ∈ wsX5_skill := by decide +kernel
set_option maxRecDepth 20000 in
theorem mX5_skill_0 : (Cond.fieldLink RX5 59 "TradeWheelModel" "thrown" "I" : Cond) ∈ wsX5_skill := by decide +kernel
set_option maxRecDepth 20000 in
theorem mX5_skill_1 : (Cond.fieldLink RX5 34 "TradeWheelModel" "s" "[I" : Cond) ∈ wsX5_skill := by decide +kernel
set_option maxHeartbeats 4000000 in
set_option maxRecDepth 100000 in
theorem kX5_skill (l : Launch) (dC : Nat → ClassId) (dI : Nat → Nat → Nat) (Z : gZ) (cC cI cZ cW : ClassId) (a_o a_o_text a_o_need a_o_made a_o_skillTold a_o_placeTold a_o_skips a_o_wheelTold a_o_tunes a_o_s a_o_spare a_o_kept a_o_isKept a_o_makes a_o_works a_o_order : Nat) (sz : Nat) (o_thrown : Int32) (o_trace : Int64) (o_typed : Int32) (o_next : Int32) (o_token : Int32) (o_place : Int32) (o_value : Int32) (o_fault : Int32) (o_trades : Int32) (o_people : Int32) (o_draftTrades : Int32) (o_draftPeople : Int32) (o_isShut : Int32) (o_falling : Int32) (o_s : Nat → Int32) (i1 : Int32) (i2 : Int32) (N : Nat) (r' : Int32) (o_thrown' : Int32) (hf : fX5_skill N o_thrown o_trades o_people o_s  i1 i2 = some (r', o_thrown')) : Met l yX5_skill wsX5_skill rmX5_skill (va_Pc [.ref a_o, .int i1, .int i2] (gB (dC, dI) Z [(cC, .char), (cI, .int), (cZ, .boolean), (cW, .object RX3)] [(a_o, .inr (5, [.int o_thrown, .long o_trace, .ref a_o_text, .int o_typed, .int o_next, .int o_token, .int o_place, .int o_value, .int o_fault, .ref a_o_need, .ref a_o_made, .ref a_o_skillTold, .ref a_o_placeTold, .ref a_o_skips, .ref a_o_wheelTold, .int o_trades, .int o_people, .int o_draftTrades, .int o_draftPeople, .int o_isShut, .ref a_o_tunes, .ref a_o_s, .ref a_o_spare, .ref a_o_kept, .ref a_o_isKept, .ref a_o_makes, .ref a_o_works, .ref a_o_order, .int o_falling])), (a_o_s, .inl (cI, 105, .inl o_s))] sz)) (va_Qi (fun (r : Int32) (_ : Unit) => r = r') (gE (dC, dI) [(a_o, .inr (5, [.int o_thrown', .long o_trace, .ref a_o_text, .int o_typed, .int o_next, .int o_token, .int o_place, .int o_value, .int o_fault, .ref a_o_need, .ref a_o_made, .ref a_o_skillTold, .ref a_o_placeTold, .ref a_o_skips, .ref a_o_wheelTold, .int o_trades, .int o_people, .int o_draftTrades, .int o_draftPeople, .int o_isShut, .ref a_o_tunes, .ref a_o_s, .ref a_o_spare, .ref a_o_kept, .ref a_o_isKept, .ref a_o_makes, .ref a_o_works, .ref a_o_order, .int o_falling])), (a_o_s, .inl (cI, 105, .inl o_s))]) (va_A [(a_o, .inr (5, [.int o_thrown, .long o_trace, .ref a_o_text, .int o_typed, .int o_next, .int o_token, .int o_place, .int o_value, .int o_fault, .ref a_o_need, .ref a_o_made, .ref a_o_skillTold, .ref a_o_placeTold, .ref a_o_skips, .ref a_o_wheelTold, .int o_trades, .int o_people, .int o_draftTrades, .int o_draftPeople, .int o_isShut, .ref a_o_tunes, .ref a_o_s, .ref a_o_spare, .ref a_o_kept, .ref a_o_isKept, .ref a_o_makes, .ref a_o_works, .ref a_o_order, .int o_falling])), (a_o_s, .inl (cI, 105, .inl o_s))] sz)) 0 0 (va_A [(a_o, .inr (5, [.int o_thrown, .long o_trace, .ref a_o_text, .int o_typed, .int o_next, .int o_token, .int o_place, .int o_value, .int o_fault, .ref a_o_need, .ref a_o_made, .ref a_o_skillTold, .ref a_o_placeTold, .ref a_o_skips, .ref a_o_wheelTold, .int o_trades, .int o_people, .int o_draftTrades, .int o_draftPeople, .int o_isShut, .ref a_o_tunes, .ref a_o_s, .ref a_o_spare, .ref a_o_kept, .ref a_o_isKept, .ref a_o_makes, .ref a_o_works, .ref a_o_order, .int o_falling])), (a_o_s, .inl (cI, 105, .inl o_s))] sz) := by
  refine gMet (cc := cX5_skill) (maxL := 3) (ret := (some .int)) (Qc := fun A => va_Qi (fun (r : Int32) (_ : Unit) => r = r') (gE (dC, dI) [(a_o, .inr (5, [.int o_thrown', .long o_trace, .ref a_o_text, .int o_typed, .int o_next, .int o_token, .int o_place, .int o_value, .int o_fault, .ref a_o_need, .ref a_o_made, .ref a_o_skillTold, .ref a_o_placeTold, .ref a_o_skips, .ref a_o_wheelTold, .int o_trades, .int o_people, .int o_draftTrades, .int o_draftPeople, .int o_isShut, .ref a_o_tunes, .ref a_o_s, .ref a_o_spare, .ref a_o_kept, .ref a_o_isKept, .ref a_o_makes, .ref a_o_works, .ref a_o_order, .int o_falling])), (a_o_s, .inl (cI, 105, .inl o_s))]) A) (by decide) rfl (Nat.le_of_ble_eq_true rfl) ?_
  intro p e s m below meth c A ls hg0 _ hsz hP hD hS hl
  have hg0 : gX p s m _ meth c cX5_skill 3 (some .int) wsX5_skill RX5 (dC, dI) Z [(cC, .char), (cI, .int), (cZ, .boolean), (cW, .object RX3)] A := hg0
  obtain ⟨hx, hb, hr, hml, hown, hts, hlocks, hA, hK, hN⟩ := id hg0
  subst hsz
  have hF : CallFix p m c cX5_skill 3 s _ wsX5_skill RX5 := ⟨hx, hb, hml, hown, hts⟩
  have hl : lv_has ls 3 [(0, .ref a_o), (1, .int i1), (2, .int i2)] := hl
  unfold fX5_skill at hf
  refine lv_aload_n hx hb dX5_skill_0 rfl (lv_at hl 0 rfl) ?_
  refine lv_iconst (v := (0 : Int32)) hx hb dX5_skill_1 (by decide) ?_
  refine va_put (D := (dC, dI)) (ci := 5) (v := .int (0 : Int32)) (ty := .int) (C := RX5) (T := TX5) (N := 29) hx hb hts uX5_skill_X5 tyX5 tyX5_ok nmX5 hown hK hP hD hS 0 rfl rfl 0 (by decide) (hts _ mX5_skill_0) (fun _ h9 => h9) rfl (by decide +kernel) rfl rfl (Nat.le_of_ble_eq_true rfl) dX5_skill_2 (fun H locs hP hD hS => ?_)
  have hP : va_P (dC, dI) vwCl [(a_o, .inr (5, [.int (0 : Int32), .long o_trace, .ref a_o_text, .int o_typed, .int o_next, .int o_token, .int o_place, .int o_value, .int o_fault, .ref a_o_need, .ref a_o_made, .ref a_o_skillTold, .ref a_o_placeTold, .ref a_o_skips, .ref a_o_wheelTold, .int o_trades, .int o_people, .int o_draftTrades, .int o_draftPeople, .int o_isShut, .ref a_o_tunes, .ref a_o_s, .ref a_o_spare, .ref a_o_kept, .ref a_o_isKept, .ref a_o_makes, .ref a_o_works, .ref a_o_order, .int o_falling])), (a_o_s, .inl (cI, 105, .inl o_s))] H := hP
  have hD : va_D A [(a_o, .inr (5, [.int (0 : Int32), .long o_trace, .ref a_o_text, .int o_typed, .int o_next, .int o_token, .int o_place, .int o_value, .int o_fault, .ref a_o_need, .ref a_o_made, .ref a_o_skillTold, .ref a_o_placeTold, .ref a_o_skips, .ref a_o_wheelTold, .int o_trades, .int o_people, .int o_draftTrades, .int o_draftPeople, .int o_isShut, .ref a_o_tunes, .ref a_o_s, .ref a_o_spare, .ref a_o_kept, .ref a_o_isKept, .ref a_o_makes, .ref a_o_works, .ref a_o_order, .int o_falling])), (a_o_s, .inl (cI, 105, .inl o_s))] := hD
  refine lv_aload_n hx hb dX5_skill_5 rfl (lv_at hl 0 rfl) ?_
  refine lv_iload_n hx hb dX5_skill_6 rfl (lv_at hl 1 rfl) ?_
  obtain ⟨r_1, hc, hf⟩ := pb1 hf
  refine gCi (va_runV (As := [.int i1]) (rest := []) hF (kX5_isPerson l dC dI Z cC cI cZ cW a_o a_o_text a_o_need a_o_made a_o_skillTold a_o_placeTold a_o_skips a_o_wheelTold a_o_tunes a_o_s a_o_spare a_o_kept a_o_isKept a_o_makes a_o_works a_o_order _ (0 : Int32) o_trace o_typed o_next o_token o_place o_value o_fault o_trades o_people o_draftTrades o_draftPeople o_isShut o_falling i1 N r_1 hc) (cwV 1 hts gX5_skill_X5_isPerson rfl rfl rfl (by decide +kernel) ⟨Nat.le_of_ble_eq_true rfl, Nat.le_of_ble_eq_true rfl⟩) (gPV (wc := [(a_o, .inr (5, [.int (0 : Int32), .long o_trace, .ref a_o_text, .int o_typed, .int o_next, .int o_token, .int o_place, .int o_value, .int o_fault, .ref a_o_need, .ref a_o_made, .ref a_o_skillTold, .ref a_o_placeTold, .ref a_o_skips, .ref a_o_wheelTold, .int o_trades, .int o_people, .int o_draftTrades, .int o_draftPeople, .int o_isShut, .ref a_o_tunes, .ref a_o_s, .ref a_o_spare, .ref a_o_kept, .ref a_o_isKept, .ref a_o_makes, .ref a_o_works, .ref a_o_order, .int o_falling]))]) hK hN hA hS hP hD [0] rfl rfl (q0 := 0) (ci := 5) rfl rfl rfl) rfl rfl hl.1 rfl (lv_room (Nat.le_of_ble_eq_true rfl)) dX5_skill_7 ⟨Nat.zero_le _, Nat.zero_le _⟩) hP hD hS hA [0] rfl rfl rfl (fun H locs hP hD hS => ?_)
  have hP : va_P (dC, dI) vwCl [(a_o, .inr (5, [.int (0 : Int32), .long o_trace, .ref a_o_text, .int o_typed, .int o_next, .int o_token, .int o_place, .int o_value, .int o_fault, .ref a_o_need, .ref a_o_made, .ref a_o_skillTold, .ref a_o_placeTold, .ref a_o_skips, .ref a_o_wheelTold, .int o_trades, .int o_people, .int o_draftTrades, .int o_draftPeople, .int o_isShut, .ref a_o_tunes, .ref a_o_s, .ref a_o_spare, .ref a_o_kept, .ref a_o_isKept, .ref a_o_makes, .ref a_o_works, .ref a_o_order, .int o_falling])), (a_o_s, .inl (cI, 105, .inl o_s))] H := hP
  have hD : va_D A [(a_o, .inr (5, [.int (0 : Int32), .long o_trace, .ref a_o_text, .int o_typed, .int o_next, .int o_token, .int o_place, .int o_value, .int o_fault, .ref a_o_need, .ref a_o_made, .ref a_o_skillTold, .ref a_o_placeTold, .ref a_o_skips, .ref a_o_wheelTold, .int o_trades, .int o_people, .int o_draftTrades, .int o_draftPeople, .int o_isShut, .ref a_o_tunes, .ref a_o_s, .ref a_o_spare, .ref a_o_kept, .ref a_o_isKept, .ref a_o_makes, .ref a_o_works, .ref a_o_order, .int o_falling])), (a_o_s, .inl (cI, 105, .inl o_s))] := hD
  refine lv_if_eq (tgt := 38) hx hb dX5_skill_10 (by decide) (fun c_2 => ?_) (fun c_2 => ?_)
  · have hf := pit hf c_2
    refine lv_iconst (v := (-1 : Int32)) hx hb dX5_skill_38 (by decide) ?_
    have q0 := Option.some.inj hf
    obtain ⟨e0, q1⟩ := Prod.mk.inj q0
    subst e0
    subst q1
    exact gRi hx hb hr hlocks hP hS dX5_skill_39
  · have hf := pif hf c_2
    refine lv_aload_n hx hb dX5_skill_13 rfl (lv_at hl 0 rfl) ?_
    refine lv_iload_n hx hb dX5_skill_14 rfl (lv_at hl 2 rfl) ?_
    obtain ⟨r_3, hc, hf⟩ := pb1 hf
    refine gCi (va_runV (As := [.int i2]) (rest := []) hF (kX5_isTrade l dC dI Z cC cI cZ cW a_o a_o_text a_o_need a_o_made a_o_skillTold a_o_placeTold a_o_skips a_o_wheelTold a_o_tunes a_o_s a_o_spare a_o_kept a_o_isKept a_o_makes a_o_works a_o_order _ (0 : Int32) o_trace o_typed o_next o_token o_place o_value o_fault o_trades o_people o_draftTrades o_draftPeople o_isShut o_falling i2 N r_3 hc) (cwV 1 hts gX5_skill_X5_isTrade rfl rfl rfl (by decide +kernel) ⟨Nat.le_of_ble_eq_true rfl, Nat.le_of_ble_eq_true rfl⟩) (gPV (wc := [(a_o, .inr (5, [.int (0 : Int32), .long o_trace, .ref a_o_text, .int o_typed, .int o_next, .int o_token, .int o_place, .int o_value, .int o_fault, .ref a_o_need, .ref a_o_made, .ref a_o_skillTold, .ref a_o_placeTold, .ref a_o_skips, .ref a_o_wheelTold, .int o_trades, .int o_people, .int o_draftTrades, .int o_draftPeople, .int o_isShut, .ref a_o_tunes, .ref a_o_s, .ref a_o_spare, .ref a_o_kept, .ref a_o_isKept, .ref a_o_makes, .ref a_o_works, .ref a_o_order, .int o_falling]))]) hK hN hA hS hP hD [0] rfl rfl (q0 := 0) (ci := 5) rfl rfl rfl) rfl rfl hl.1 rfl (lv_room (Nat.le_of_ble_eq_true rfl)) dX5_skill_15 ⟨Nat.zero_le _, Nat.zero_le _⟩) hP hD hS hA [0] rfl rfl rfl (fun H locs hP hD hS => ?_)
    have hP : va_P (dC, dI) vwCl [(a_o, .inr (5, [.int (0 : Int32), .long o_trace, .ref a_o_text, .int o_typed, .int o_next, .int o_token, .int o_place, .int o_value, .int o_fault, .ref a_o_need, .ref a_o_made, .ref a_o_skillTold, .ref a_o_placeTold, .ref a_o_skips, .ref a_o_wheelTold, .int o_trades, .int o_people, .int o_draftTrades, .int o_draftPeople, .int o_isShut, .ref a_o_tunes, .ref a_o_s, .ref a_o_spare, .ref a_o_kept, .ref a_o_isKept, .ref a_o_makes, .ref a_o_works, .ref a_o_order, .int o_falling])), (a_o_s, .inl (cI, 105, .inl o_s))] H := hP
    have hD : va_D A [(a_o, .inr (5, [.int (0 : Int32), .long o_trace, .ref a_o_text, .int o_typed, .int o_next, .int o_token, .int o_place, .int o_value, .int o_fault, .ref a_o_need, .ref a_o_made, .ref a_o_skillTold, .ref a_o_placeTold, .ref a_o_skips, .ref a_o_wheelTold, .int o_trades, .int o_people, .int o_draftTrades, .int o_draftPeople, .int o_isShut, .ref a_o_tunes, .ref a_o_s, .ref a_o_spare, .ref a_o_kept, .ref a_o_isKept, .ref a_o_makes, .ref a_o_works, .ref a_o_order, .int o_falling])), (a_o_s, .inl (cI, 105, .inl o_s))] := hD
    refine lv_if_eq (tgt := 38) hx hb dX5_skill_18 (by decide) (fun c_4 => ?_) (fun c_4 => ?_)
    · have hf := pit hf c_4
      refine lv_iconst (v := (-1 : Int32)) hx hb dX5_skill_38 (by decide) ?_
      have q0 := Option.some.inj hf
      obtain ⟨e0, q1⟩ := Prod.mk.inj q0
      subst e0
      subst q1
      exact gRi hx hb hr hlocks hP hS dX5_skill_39
    · have hf := pif hf c_4
      refine lv_aload_n hx hb dX5_skill_21 rfl (lv_at hl 0 rfl) ?_
      refine va_get (D := (dC, dI)) (ci := 5) (v := .ref a_o_s) (C := RX5) (T := TX5) (N := 29) hx hb hts uX5_skill_X5 hown hK hP 0 rfl rfl 21 (by decide) (hts _ mX5_skill_1) (fun _ h9 => h9) rfl dX5_skill_22 ?_
      refine lv_bipush (v := (33 : Int32)) hx hb dX5_skill_25 (by decide) ?_
      refine lv_bipush (v := (6 : Int32)) hx hb dX5_skill_27 (by decide) ?_
      refine lv_iload_n hx hb dX5_skill_29 rfl (lv_at hl 1 rfl) ?_
      refine lv_imul hx hb dX5_skill_30 ?_
      refine lv_iadd hx hb dX5_skill_31 ?_
      refine lv_iload_n hx hb dX5_skill_32 rfl (lv_at hl 2 rfl) ?_
      refine lv_iadd hx hb dX5_skill_33 ?_
      obtain ⟨h_5, hf⟩ := pgd hf
      refine va_iald hx hb hK hP 1 1 rfl rfl h_5 dX5_skill_34 ?_
      refine lv_goto (tgt := 39) hx hb dX5_skill_35 (by decide) ?_
      have q0 := Option.some.inj hf
      obtain ⟨e0, q1⟩ := Prod.mk.inj q0
      subst e0
      subst q1
      exact gRi hx hb hr hlocks hP hS dX5_skill_39
abbrev rmX5_placeOf : Room := { frames := 0, cells := 0, slots := 0, locals := 0 }
set_option maxRecDepth 20000 in
theorem uX5_placeOf_X5 : ∀ w ∈ wsX50, w ∈ wsX5_placeOf := by decide +kernel
set_option maxRecDepth 20000 in
theorem mX5_placeOf_0 : (Cond.fieldLink RX5 137 "TradeWheelModel" "trades" "I" : Cond) ∈ wsX5_placeOf := by decide +kernel
set_option maxRecDepth 20000 in
theorem mX5_placeOf_1 : (Cond.fieldLink RX5 34 "TradeWheelModel" "s" "[I" : Cond) ∈ wsX5_placeOf := by decide +kernel
set_option maxRecDepth 20000 in
theorem mX5_placeOf_2 : (Cond.fieldLink RX5 25 "TradeWheelModel" "skips" "[I" : Cond) ∈ wsX5_placeOf := by decide +kernel
set_option maxHeartbeats 4000000 in
set_option maxRecDepth 100000 in
theorem wX5_placeOf_2 {p : Program} {l : Launch} {e : Env} {s : State} {m : MethodId} {args : Array Value} {below : List Frame} {meth : Method} {c : Code} {Q : State → Prop} {A : Nat → Prop} {dC : Nat → ClassId} {dI : Nat → Nat → Nat} {Z : gZ} {cC cI cZ cW : ClassId} (hg0 : gX p s m args meth c cX5_placeOf 4 (some .int) wsX5_placeOf RX5 (dC, dI) Z [(cC, .char), (cI, .int), (cZ, .boolean), (cW, .object RX3)] A) (a_o a_o_text a_o_need a_o_made a_o_skillTold a_o_placeTold a_o_skips a_o_wheelTold a_o_tunes a_o_s a_o_spare a_o_kept a_o_isKept a_o_makes a_o_works a_o_order : Nat) (o_thrown : Int32) (o_trace : Int64) (o_typed : Int32) (o_next : Int32) (o_token : Int32) (o_place : Int32) (o_value : Int32) (o_fault : Int32) (o_trades : Int32) (o_people : Int32) (o_draftTrades : Int32) (o_draftPeople : Int32) (o_isShut : Int32) (o_falling : Int32) (o_skips : Nat → Int32) (o_s : Nat → Int32) (l1 : Int32) (N : Nat) : ∀ (n : Nat) (l2 : Int32) (ro' : Option Int32) (l2' : Int32), fX5_placeOf_2 N o_trades o_skips o_s l1 n l2 = some (ro', l2') → ∀ (H : Heap) (locs : List Loc) (ls : Array Slot), va_P (dC, dI) vwCl [(a_o, .inr (5, [.int o_thrown, .long o_trace, .ref a_o_text, .int o_typed, .int o_next, .int o_token, .int o_place, .int o_value, .int o_fault, .ref a_o_need, .ref a_o_made, .ref a_o_skillTold, .ref a_o_placeTold, .ref a_o_skips, .ref a_o_wheelTold, .int o_trades, .int o_people, .int o_draftTrades, .int o_draftPeople, .int o_isShut, .ref a_o_tunes, .ref a_o_s, .ref a_o_spare, .ref a_o_kept, .ref a_o_isKept, .ref a_o_makes, .ref a_o_works, .ref a_o_order, .int o_falling])), (a_o_skips, .inl (cI, 12, .inl o_skips)), (a_o_s, .inl (cI, 105, .inl o_s))] H → va_D A [(a_o, .inr (5, [.int o_thrown, .long o_trace, .ref a_o_text, .int o_typed, .int o_next, .int o_token, .int o_place, .int o_value, .int o_fault, .ref a_o_need, .ref a_o_made, .ref a_o_skillTold, .ref a_o_placeTold, .ref a_o_skips, .ref a_o_wheelTold, .int o_trades, .int o_people, .int o_draftTrades, .int o_draftPeople, .int o_isShut, .ref a_o_tunes, .ref a_o_s, .ref a_o_spare, .ref a_o_kept, .ref a_o_isKept, .ref a_o_makes, .ref a_o_works, .ref a_o_order, .int o_falling])), (a_o_skips, .inl (cI, 12, .inl o_skips)), (a_o_s, .inl (cI, 105, .inl o_s))] → va_S A s.heap H locs → lv_has ls 4 [(0, .ref a_o), (1, .int l1), (2, .int l2)] → (ro' = none → ∀ (H : Heap) (locs : List Loc) (ls : Array Slot), va_P (dC, dI) vwCl [(a_o, .inr (5, [.int o_thrown, .long o_trace, .ref a_o_text, .int o_typed, .int o_next, .int o_token, .int o_place, .int o_value, .int o_fault, .ref a_o_need, .ref a_o_made, .ref a_o_skillTold, .ref a_o_placeTold, .ref a_o_skips, .ref a_o_wheelTold, .int o_trades, .int o_people, .int o_draftTrades, .int o_draftPeople, .int o_isShut, .ref a_o_tunes, .ref a_o_s, .ref a_o_spare, .ref a_o_kept, .ref a_o_isKept, .ref a_o_makes, .ref a_o_works, .ref a_o_order, .int o_falling])), (a_o_skips, .inl (cI, 12, .inl o_skips)), (a_o_s, .inl (cI, 105, .inl o_s))] H → va_D A [(a_o, .inr (5, [.int o_thrown, .long o_trace, .ref a_o_text, .int o_typed, .int o_next, .int o_token, .int o_place, .int o_value, .int o_fault, .ref a_o_need, .ref a_o_made, .ref a_o_skillTold, .ref a_o_placeTold, .ref a_o_skips, .ref a_o_wheelTold, .int o_trades, .int o_people, .int o_draftTrades, .int o_draftPeople, .int o_isShut, .ref a_o_tunes, .ref a_o_s, .ref a_o_spare, .ref a_o_kept, .ref a_o_isKept, .ref a_o_makes, .ref a_o_works, .ref a_o_order, .int o_falling])), (a_o_skips, .inl (cI, 12, .inl o_skips)), (a_o_s, .inl (cI, 105, .inl o_s))] → va_S A s.heap H locs → lv_has ls 4 [] → W p l e (headSpec wsX5_placeOf rmX5_placeOf).room s m args below meth c H locs 0 0 Q (F0 m 56 ls [])) → (∀ r9 : Int32, ro' = some r9 → ∀ (H : Heap) (locs : List Loc) (ls : Array Slot), va_P (dC, dI) vwCl [(a_o, .inr (5, [.int o_thrown, .long o_trace, .ref a_o_text, .int o_typed, .int o_next, .int o_token, .int o_place, .int o_value, .int o_fault, .ref a_o_need, .ref a_o_made, .ref a_o_skillTold, .ref a_o_placeTold, .ref a_o_skips, .ref a_o_wheelTold, .int o_trades, .int o_people, .int o_draftTrades, .int o_draftPeople, .int o_isShut, .ref a_o_tunes, .ref a_o_s, .ref a_o_spare, .ref a_o_kept, .ref a_o_isKept, .ref a_o_makes, .ref a_o_works, .ref a_o_order, .int o_falling])), (a_o_skips, .inl (cI, 12, .inl o_skips)), (a_o_s, .inl (cI, 105, .inl o_s))] H → va_D A [(a_o, .inr (5, [.int o_thrown, .long o_trace, .ref a_o_text, .int o_typed, .int o_next, .int o_token, .int o_place, .int o_value, .int o_fault, .ref a_o_need, .ref a_o_made, .ref a_o_skillTold, .ref a_o_placeTold, .ref a_o_skips, .ref a_o_wheelTold, .int o_trades, .int o_people, .int o_draftTrades, .int o_draftPeople, .int o_isShut, .ref a_o_tunes, .ref a_o_s, .ref a_o_spare, .ref a_o_kept, .ref a_o_isKept, .ref a_o_makes, .ref a_o_works, .ref a_o_order, .int o_falling])), (a_o_skips, .inl (cI, 12, .inl o_skips)), (a_o_s, .inl (cI, 105, .inl o_s))] → va_S A s.heap H locs → W p l e (headSpec wsX5_placeOf rmX5_placeOf).room s m args below meth c H locs 0 0 Q (F0 m 49 ls [.int r9])) → W p l e (headSpec wsX5_placeOf rmX5_placeOf).room s m args below meth c H locs 0 0 Q (F0 m 2 ls []) := by
  obtain ⟨hx, hb, hr, hml, hown, hts, hlocks, hA, hK, hN⟩ := id hg0
  have hF : CallFix p m c cX5_placeOf 4 s args wsX5_placeOf RX5 := ⟨hx, hb, hml, hown, hts⟩
  intro n
  induction n with
  | zero =>
    intro l2 ro' l2' hf
    have hf := fX5_placeOf_2_0.symm.trans hf
    cases hf
  | succ n ih =>
    intro l2 ro' l2' hf H locs ls hP hD hS hl kx kr49
    have hf := fX5_placeOf_2_s.symm.trans hf
    refine lv_iload_n hx hb dX5_placeOf_2 rfl (lv_at hl 2 rfl) ?_
    refine lv_aload_n hx hb dX5_placeOf_3 rfl (lv_at hl 0 rfl) ?_
    refine va_get (D := (dC, dI)) (ci := 5) (v := .int o_trades) (C := RX5) (T := TX5) (N := 29) hx hb hts uX5_placeOf_X5 hown hK hP 0 rfl rfl 15 (by decide) (hts _ mX5_placeOf_0) (fun _ h9 => h9) rfl dX5_placeOf_4 ?_
    refine lv_icmp_ge (tgt := 56) hx hb dX5_placeOf_7 (by decide) (fun c_1 => ?_) (fun c_1 => ?_)
    · have hf := pit hf c_1
      have q0 := Option.some.inj hf
      obtain ⟨e0, q1⟩ := Prod.mk.inj q0
      subst e0
      subst q1
      exact kx rfl _ _ _ hP hD hS (lv_sub hl [] rfl)
    · have hf := pif hf c_1
      refine lv_aload_n hx hb dX5_placeOf_10 rfl (lv_at hl 0 rfl) ?_
      refine va_get (D := (dC, dI)) (ci := 5) (v := .ref a_o_s) (C := RX5) (T := TX5) (N := 29) hx hb hts uX5_placeOf_X5 hown hK hP 0 rfl rfl 21 (by decide) (hts _ mX5_placeOf_1) (fun _ h9 => h9) rfl dX5_placeOf_11 ?_
      refine lv_bipush (v := (20 : Int32)) hx hb dX5_placeOf_14 (by decide) ?_
      refine lv_iload_n hx hb dX5_placeOf_16 rfl (lv_at hl 1 rfl) ?_
      refine lv_iadd hx hb dX5_placeOf_17 ?_
      obtain ⟨h_2, hf⟩ := pgd hf
      refine va_iald hx hb hK hP 2 1 rfl rfl h_2 dX5_placeOf_18 ?_
      refine lv_iload_n hx hb dX5_placeOf_19 rfl (lv_at hl 2 rfl) ?_
      refine lv_iadd hx hb dX5_placeOf_20 ?_
      refine lv_aload_n hx hb dX5_placeOf_21 rfl (lv_at hl 0 rfl) ?_
      refine va_get (D := (dC, dI)) (ci := 5) (v := .int o_trades) (C := RX5) (T := TX5) (N := 29) hx hb hts uX5_placeOf_X5 hown hK hP 0 rfl rfl 15 (by decide) (hts _ mX5_placeOf_0) (fun _ h9 => h9) rfl dX5_placeOf_22 ?_
      obtain ⟨hz_3, hf⟩ := pgz hf
      refine lv_irem hx hb dX5_placeOf_25 hz_3 ?_
      refine lv_istore_n (lv' := [(3, .int (((o_s ((20 : Int32) + l1).toNatClampNeg) + l2) - ((o_s ((20 : Int32) + l1).toNatClampNeg) + l2) / o_trades * o_trades)), (0, .ref a_o), (1, .int l1), (2, .int l2)]) hx hb dX5_placeOf_26 rfl hl (by decide) rfl (fun ls hl => ?_)
      refine lv_aload_n hx hb dX5_placeOf_27 rfl (lv_at hl 1 rfl) ?_
      refine va_get (D := (dC, dI)) (ci := 5) (v := .ref a_o_skips) (C := RX5) (T := TX5) (N := 29) hx hb hts uX5_placeOf_X5 hown hK hP 0 rfl rfl 13 (by decide) (hts _ mX5_placeOf_2) (fun _ h9 => h9) rfl dX5_placeOf_28 ?_
      refine lv_iload_n hx hb dX5_placeOf_31 rfl (lv_at hl 2 rfl) ?_
      obtain ⟨h_4, hf⟩ := pgd hf
      refine va_iald hx hb hK hP 1 1 rfl rfl h_4 dX5_placeOf_32 ?_
      refine lv_aload_n hx hb dX5_placeOf_33 rfl (lv_at hl 1 rfl) ?_
      refine va_get (D := (dC, dI)) (ci := 5) (v := .ref a_o_s) (C := RX5) (T := TX5) (N := 29) hx hb hts uX5_placeOf_X5 hown hK hP 0 rfl rfl 21 (by decide) (hts _ mX5_placeOf_1) (fun _ h9 => h9) rfl dX5_placeOf_34 ?_
      refine lv_bipush (v := (14 : Int32)) hx hb dX5_placeOf_37 (by decide) ?_
      refine lv_iload_n hx hb dX5_placeOf_39 rfl (lv_at hl 0 rfl) ?_
      refine lv_iadd hx hb dX5_placeOf_40 ?_
      obtain ⟨h_5, hf⟩ := pgd hf
      refine va_iald hx hb hK hP 2 1 rfl rfl h_5 dX5_placeOf_41 ?_
      refine lv_ishr hx hb dX5_placeOf_42 ?_
      refine lv_iconst (v := (1 : Int32)) hx hb dX5_placeOf_43 (by decide) ?_
      refine lv_iand hx hb dX5_placeOf_44 ?_
      refine lv_if_ne (tgt := 50) hx hb dX5_placeOf_45 (by decide) (fun c_6 => ?_) (fun c_6 => ?_)
      · have hf := pif hf c_6
        refine lv_iinc (v := (l2 + 1)) (lv' := [(2, .int (l2 + 1)), (3, .int (((o_s ((20 : Int32) + l1).toNatClampNeg) + l2) - ((o_s ((20 : Int32) + l1).toNatClampNeg) + l2) / o_trades * o_trades)), (0, .ref a_o), (1, .int l1)]) hx hb dX5_placeOf_50 hl (k := 3) rfl rfl (by decide) rfl (fun ls hl => ?_)
        refine lv_goto (tgt := 2) hx hb dX5_placeOf_53 (by decide) ?_
        exact ih _ _ _ hf _ _ _ hP hD hS (lv_sub hl [2, 3, 0] rfl) kx kr49
      · have hf := pit hf c_6
        refine lv_iload_n hx hb dX5_placeOf_48 rfl (lv_at hl 0 rfl) ?_
        have q0 := Option.some.inj hf
        obtain ⟨e0, q1⟩ := Prod.mk.inj q0
        subst e0
        subst q1
        exact kr49 _ rfl _ _ _ hP hD hS
set_option maxHeartbeats 4000000 in
set_option maxRecDepth 100000 in
theorem kX5_placeOf (l : Launch) (dC : Nat → ClassId) (dI : Nat → Nat → Nat) (Z : gZ) (cC cI cZ cW : ClassId) (a_o a_o_text a_o_need a_o_made a_o_skillTold a_o_placeTold a_o_skips a_o_wheelTold a_o_tunes a_o_s a_o_spare a_o_kept a_o_isKept a_o_makes a_o_works a_o_order : Nat) (sz : Nat) (o_thrown : Int32) (o_trace : Int64) (o_typed : Int32) (o_next : Int32) (o_token : Int32) (o_place : Int32) (o_value : Int32) (o_fault : Int32) (o_trades : Int32) (o_people : Int32) (o_draftTrades : Int32) (o_draftPeople : Int32) (o_isShut : Int32) (o_falling : Int32) (o_skips : Nat → Int32) (o_s : Nat → Int32) (i1 : Int32) (N : Nat) (r' : Int32) (hf : fX5_placeOf N o_trades o_skips o_s  i1 = some r') : Met l yX5_placeOf wsX5_placeOf rmX5_placeOf (va_Pc [.ref a_o, .int i1] (gB (dC, dI) Z [(cC, .char), (cI, .int), (cZ, .boolean), (cW, .object RX3)] [(a_o, .inr (5, [.int o_thrown, .long o_trace, .ref a_o_text, .int o_typed, .int o_next, .int o_token, .int o_place, .int o_value, .int o_fault, .ref a_o_need, .ref a_o_made, .ref a_o_skillTold, .ref a_o_placeTold, .ref a_o_skips, .ref a_o_wheelTold, .int o_trades, .int o_people, .int o_draftTrades, .int o_draftPeople, .int o_isShut, .ref a_o_tunes, .ref a_o_s, .ref a_o_spare, .ref a_o_kept, .ref a_o_isKept, .ref a_o_makes, .ref a_o_works, .ref a_o_order, .int o_falling])), (a_o_skips, .inl (cI, 12, .inl o_skips)), (a_o_s, .inl (cI, 105, .inl o_s))] sz)) (va_Qi (fun (r : Int32) (_ : Unit) => r = r') (gE (dC, dI) [(a_o, .inr (5, [.int o_thrown, .long o_trace, .ref a_o_text, .int o_typed, .int o_next, .int o_token, .int o_place, .int o_value, .int o_fault, .ref a_o_need, .ref a_o_made, .ref a_o_skillTold, .ref a_o_placeTold, .ref a_o_skips, .ref a_o_wheelTold, .int o_trades, .int o_people, .int o_draftTrades, .int o_draftPeople, .int o_isShut, .ref a_o_tunes, .ref a_o_s, .ref a_o_spare, .ref a_o_kept, .ref a_o_isKept, .ref a_o_makes, .ref a_o_works, .ref a_o_order, .int o_falling])), (a_o_skips, .inl (cI, 12, .inl o_skips)), (a_o_s, .inl (cI, 105, .inl o_s))]) (va_A [(a_o, .inr (5, [.int o_thrown, .long o_trace, .ref a_o_text, .int o_typed, .int o_next, .int o_token, .int o_place, .int o_value, .int o_fault, .ref a_o_need, .ref a_o_made, .ref a_o_skillTold, .ref a_o_placeTold, .ref a_o_skips, .ref a_o_wheelTold, .int o_trades, .int o_people, .int o_draftTrades, .int o_draftPeople, .int o_isShut, .ref a_o_tunes, .ref a_o_s, .ref a_o_spare, .ref a_o_kept, .ref a_o_isKept, .ref a_o_makes, .ref a_o_works, .ref a_o_order, .int o_falling])), (a_o_skips, .inl (cI, 12, .inl o_skips)), (a_o_s, .inl (cI, 105, .inl o_s))] sz)) 0 0 (va_A [(a_o, .inr (5, [.int o_thrown, .long o_trace, .ref a_o_text, .int o_typed, .int o_next, .int o_token, .int o_place, .int o_value, .int o_fault, .ref a_o_need, .ref a_o_made, .ref a_o_skillTold, .ref a_o_placeTold, .ref a_o_skips, .ref a_o_wheelTold, .int o_trades, .int o_people, .int o_draftTrades, .int o_draftPeople, .int o_isShut, .ref a_o_tunes, .ref a_o_s, .ref a_o_spare, .ref a_o_kept, .ref a_o_isKept, .ref a_o_makes, .ref a_o_works, .ref a_o_order, .int o_falling])), (a_o_skips, .inl (cI, 12, .inl o_skips)), (a_o_s, .inl (cI, 105, .inl o_s))] sz) := by
  refine gMet (cc := cX5_placeOf) (maxL := 4) (ret := (some .int)) (Qc := fun A => va_Qi (fun (r : Int32) (_ : Unit) => r = r') (gE (dC, dI) [(a_o, .inr (5, [.int o_thrown, .long o_trace, .ref a_o_text, .int o_typed, .int o_next, .int o_token, .int o_place, .int o_value, .int o_fault, .ref a_o_need, .ref a_o_made, .ref a_o_skillTold, .ref a_o_placeTold, .ref a_o_skips, .ref a_o_wheelTold, .int o_trades, .int o_people, .int o_draftTrades, .int o_draftPeople, .int o_isShut, .ref a_o_tunes, .ref a_o_s, .ref a_o_spare, .ref a_o_kept, .ref a_o_isKept, .ref a_o_makes, .ref a_o_works, .ref a_o_order, .int o_falling])), (a_o_skips, .inl (cI, 12, .inl o_skips)), (a_o_s, .inl (cI, 105, .inl o_s))]) A) (by decide) rfl (Nat.le_of_ble_eq_true rfl) ?_
  intro p e s m below meth c A ls hg0 _ hsz hP hD hS hl
  have hg0 : gX p s m _ meth c cX5_placeOf 4 (some .int) wsX5_placeOf RX5 (dC, dI) Z [(cC, .char), (cI, .int), (cZ, .boolean), (cW, .object RX3)] A := hg0
  obtain ⟨hx, hb, hr, hml, hown, hts, hlocks, hA, hK, hN⟩ := id hg0
  subst hsz
  have hF : CallFix p m c cX5_placeOf 4 s _ wsX5_placeOf RX5 := ⟨hx, hb, hml, hown, hts⟩
  have hl : lv_has ls 4 [(0, .ref a_o), (1, .int i1)] := hl
  unfold fX5_placeOf at hf
  refine lv_iconst (v := (0 : Int32)) hx hb dX5_placeOf_0 (by decide) ?_
  refine lv_istore_n (lv' := [(2, .int (0 : Int32)), (0, .ref a_o), (1, .int i1)]) hx hb dX5_placeOf_1 rfl hl (by decide) rfl (fun ls hl => ?_)
  obtain ⟨ro_1, l2_2, hc, hf⟩ := pb2 hf
  refine wX5_placeOf_2 hg0 a_o a_o_text a_o_need a_o_made a_o_skillTold a_o_placeTold a_o_skips a_o_wheelTold a_o_tunes a_o_s a_o_spare a_o_kept a_o_isKept a_o_makes a_o_works a_o_order o_thrown o_trace o_typed o_next o_token o_place o_value o_fault o_trades o_people o_draftTrades o_draftPeople o_isShut o_falling o_skips o_s i1 N N (0 : Int32) ro_1 l2_2 hc _ _ _ hP hD hS (lv_sub hl [1, 2, 0] rfl) (fun hro H locs ls hP hD hS hl => ?_) (fun r9 hro H locs ls hP hD hS => ?_)
  · subst hro
    have hf := rjn hf
    refine lv_bipush (v := (-9 : Int32)) hx hb dX5_placeOf_56 (by decide) ?_
    have q0 := Option.some.inj hf
    subst q0
    exact gRi hx hb hr hlocks hP hS dX5_placeOf_58
  · subst hro
    have hf := rjs hf
    have q0 := Option.some.inj hf
    subst q0
    exact gRi hx hb hr hlocks hP hS dX5_placeOf_49
abbrev rmX5_worksAt : Room := { frames := 1, cells := 0, slots := 0, locals := 23 }
set_option maxRecDepth 20000 in
theorem uX5_worksAt_X5 : ∀ w ∈ wsX50, w ∈ wsX5_worksAt := by decide +kernel
set_option maxRecDepth 20000 in
theorem mX5_worksAt_0 : (Cond.fieldLink RX5 34 "TradeWheelModel" "s" "[I" : Cond) ∈ wsX5_worksAt := by decide +kernel
set_option maxHeartbeats 4000000 in
set_option maxRecDepth 100000 in
theorem kX5_worksAt (l : Launch) (dC : Nat → ClassId) (dI : Nat → Nat → Nat) (Z : gZ) (cC cI cZ cW : ClassId) (a_o a_o_text a_o_need a_o_made a_o_skillTold a_o_placeTold a_o_skips a_o_wheelTold a_o_tunes a_o_s a_o_spare a_o_kept a_o_isKept a_o_makes a_o_works a_o_order : Nat) (sz : Nat) (o_thrown : Int32) (o_trace : Int64) (o_typed : Int32) (o_next : Int32) (o_token : Int32) (o_place : Int32) (o_value : Int32) (o_fault : Int32) (o_trades : Int32) (o_people : Int32) (o_draftTrades : Int32) (o_draftPeople : Int32) (o_isShut : Int32) (o_falling : Int32) (o_skips : Nat → Int32) (o_s : Nat → Int32) (i1 : Int32) (N : Nat) (r' : Int32) (hf : fX5_worksAt N o_trades o_skips o_s  i1 = some r') : Met l yX5_worksAt wsX5_worksAt rmX5_worksAt (va_Pc [.ref a_o, .int i1] (gB (dC, dI) Z [(cC, .char), (cI, .int), (cZ, .boolean), (cW, .object RX3)] [(a_o, .inr (5, [.int o_thrown, .long o_trace, .ref a_o_text, .int o_typed, .int o_next, .int o_token, .int o_place, .int o_value, .int o_fault, .ref a_o_need, .ref a_o_made, .ref a_o_skillTold, .ref a_o_placeTold, .ref a_o_skips, .ref a_o_wheelTold, .int o_trades, .int o_people, .int o_draftTrades, .int o_draftPeople, .int o_isShut, .ref a_o_tunes, .ref a_o_s, .ref a_o_spare, .ref a_o_kept, .ref a_o_isKept, .ref a_o_makes, .ref a_o_works, .ref a_o_order, .int o_falling])), (a_o_skips, .inl (cI, 12, .inl o_skips)), (a_o_s, .inl (cI, 105, .inl o_s))] sz)) (va_Qi (fun (r : Int32) (_ : Unit) => r = r') (gE (dC, dI) [(a_o, .inr (5, [.int o_thrown, .long o_trace, .ref a_o_text, .int o_typed, .int o_next, .int o_token, .int o_place, .int o_value, .int o_fault, .ref a_o_need, .ref a_o_made, .ref a_o_skillTold, .ref a_o_placeTold, .ref a_o_skips, .ref a_o_wheelTold, .int o_trades, .int o_people, .int o_draftTrades, .int o_draftPeople, .int o_isShut, .ref a_o_tunes, .ref a_o_s, .ref a_o_spare, .ref a_o_kept, .ref a_o_isKept, .ref a_o_makes, .ref a_o_works, .ref a_o_order, .int o_falling])), (a_o_skips, .inl (cI, 12, .inl o_skips)), (a_o_s, .inl (cI, 105, .inl o_s))]) (va_A [(a_o, .inr (5, [.int o_thrown, .long o_trace, .ref a_o_text, .int o_typed, .int o_next, .int o_token, .int o_place, .int o_value, .int o_fault, .ref a_o_need, .ref a_o_made, .ref a_o_skillTold, .ref a_o_placeTold, .ref a_o_skips, .ref a_o_wheelTold, .int o_trades, .int o_people, .int o_draftTrades, .int o_draftPeople, .int o_isShut, .ref a_o_tunes, .ref a_o_s, .ref a_o_spare, .ref a_o_kept, .ref a_o_isKept, .ref a_o_makes, .ref a_o_works, .ref a_o_order, .int o_falling])), (a_o_skips, .inl (cI, 12, .inl o_skips)), (a_o_s, .inl (cI, 105, .inl o_s))] sz)) 0 0 (va_A [(a_o, .inr (5, [.int o_thrown, .long o_trace, .ref a_o_text, .int o_typed, .int o_next, .int o_token, .int o_place, .int o_value, .int o_fault, .ref a_o_need, .ref a_o_made, .ref a_o_skillTold, .ref a_o_placeTold, .ref a_o_skips, .ref a_o_wheelTold, .int o_trades, .int o_people, .int o_draftTrades, .int o_draftPeople, .int o_isShut, .ref a_o_tunes, .ref a_o_s, .ref a_o_spare, .ref a_o_kept, .ref a_o_isKept, .ref a_o_makes, .ref a_o_works, .ref a_o_order, .int o_falling])), (a_o_skips, .inl (cI, 12, .inl o_skips)), (a_o_s, .inl (cI, 105, .inl o_s))] sz) := by
  refine gMet (cc := cX5_worksAt) (maxL := 3) (ret := (some .int)) (Qc := fun A => va_Qi (fun (r : Int32) (_ : Unit) => r = r') (gE (dC, dI) [(a_o, .inr (5, [.int o_thrown, .long o_trace, .ref a_o_text, .int o_typed, .int o_next, .int o_token, .int o_place, .int o_value, .int o_fault, .ref a_o_need, .ref a_o_made, .ref a_o_skillTold, .ref a_o_placeTold, .ref a_o_skips, .ref a_o_wheelTold, .int o_trades, .int o_people, .int o_draftTrades, .int o_draftPeople, .int o_isShut, .ref a_o_tunes, .ref a_o_s, .ref a_o_spare, .ref a_o_kept, .ref a_o_isKept, .ref a_o_makes, .ref a_o_works, .ref a_o_order, .int o_falling])), (a_o_skips, .inl (cI, 12, .inl o_skips)), (a_o_s, .inl (cI, 105, .inl o_s))]) A) (by decide) rfl (Nat.le_of_ble_eq_true rfl) ?_
  intro p e s m below meth c A ls hg0 _ hsz hP hD hS hl
  have hg0 : gX p s m _ meth c cX5_worksAt 3 (some .int) wsX5_worksAt RX5 (dC, dI) Z [(cC, .char), (cI, .int), (cZ, .boolean), (cW, .object RX3)] A := hg0
  obtain ⟨hx, hb, hr, hml, hown, hts, hlocks, hA, hK, hN⟩ := id hg0
  subst hsz
  have hF : CallFix p m c cX5_worksAt 3 s _ wsX5_worksAt RX5 := ⟨hx, hb, hml, hown, hts⟩
  have hl : lv_has ls 3 [(0, .ref a_o), (1, .int i1)] := hl
  unfold fX5_worksAt at hf
  refine lv_aload_n hx hb dX5_worksAt_0 rfl (lv_at hl 0 rfl) ?_
  refine lv_iload_n hx hb dX5_worksAt_1 rfl (lv_at hl 1 rfl) ?_
  obtain ⟨r_1, hc, hf⟩ := pb1 hf
  refine gCi (va_runV (As := [.int i1]) (rest := []) hF (kX5_placeOf l dC dI Z cC cI cZ cW a_o a_o_text a_o_need a_o_made a_o_skillTold a_o_placeTold a_o_skips a_o_wheelTold a_o_tunes a_o_s a_o_spare a_o_kept a_o_isKept a_o_makes a_o_works a_o_order _ o_thrown o_trace o_typed o_next o_token o_place o_value o_fault o_trades o_people o_draftTrades o_draftPeople o_isShut o_falling o_skips o_s i1 N r_1 hc) (cwV 1 hts gX5_worksAt_X5_placeOf rfl rfl rfl (by decide +kernel) ⟨Nat.le_of_ble_eq_true rfl, Nat.le_of_ble_eq_true rfl⟩) (gPV (wc := [(a_o, .inr (5, [.int o_thrown, .long o_trace, .ref a_o_text, .int o_typed, .int o_next, .int o_token, .int o_place, .int o_value, .int o_fault, .ref a_o_need, .ref a_o_made, .ref a_o_skillTold, .ref a_o_placeTold, .ref a_o_skips, .ref a_o_wheelTold, .int o_trades, .int o_people, .int o_draftTrades, .int o_draftPeople, .int o_isShut, .ref a_o_tunes, .ref a_o_s, .ref a_o_spare, .ref a_o_kept, .ref a_o_isKept, .ref a_o_makes, .ref a_o_works, .ref a_o_order, .int o_falling])), (a_o_skips, .inl (cI, 12, .inl o_skips)), (a_o_s, .inl (cI, 105, .inl o_s))]) hK hN hA hS hP hD [0, 1, 2] rfl rfl (q0 := 0) (ci := 5) rfl rfl rfl) rfl rfl hl.1 rfl (lv_room (Nat.le_of_ble_eq_true rfl)) dX5_worksAt_2 ⟨Nat.zero_le _, Nat.zero_le _⟩) hP hD hS hA [0, 1, 2] rfl rfl rfl (fun H locs hP hD hS => ?_)
  have hP : va_P (dC, dI) vwCl [(a_o, .inr (5, [.int o_thrown, .long o_trace, .ref a_o_text, .int o_typed, .int o_next, .int o_token, .int o_place, .int o_value, .int o_fault, .ref a_o_need, .ref a_o_made, .ref a_o_skillTold, .ref a_o_placeTold, .ref a_o_skips, .ref a_o_wheelTold, .int o_trades, .int o_people, .int o_draftTrades, .int o_draftPeople, .int o_isShut, .ref a_o_tunes, .ref a_o_s, .ref a_o_spare, .ref a_o_kept, .ref a_o_isKept, .ref a_o_makes, .ref a_o_works, .ref a_o_order, .int o_falling])), (a_o_skips, .inl (cI, 12, .inl o_skips)), (a_o_s, .inl (cI, 105, .inl o_s))] H := hP
  have hD : va_D A [(a_o, .inr (5, [.int o_thrown, .long o_trace, .ref a_o_text, .int o_typed, .int o_next, .int o_token, .int o_place, .int o_value, .int o_fault, .ref a_o_need, .ref a_o_made, .ref a_o_skillTold, .ref a_o_placeTold, .ref a_o_skips, .ref a_o_wheelTold, .int o_trades, .int o_people, .int o_draftTrades, .int o_draftPeople, .int o_isShut, .ref a_o_tunes, .ref a_o_s, .ref a_o_spare, .ref a_o_kept, .ref a_o_isKept, .ref a_o_makes, .ref a_o_works, .ref a_o_order, .int o_falling])), (a_o_skips, .inl (cI, 12, .inl o_skips)), (a_o_s, .inl (cI, 105, .inl o_s))] := hD
  refine lv_istore_n (lv' := [(2, .int r_1), (0, .ref a_o), (1, .int i1)]) hx hb dX5_worksAt_5 rfl hl (by decide) rfl (fun ls hl => ?_)
  refine lv_iload_n hx hb dX5_worksAt_6 rfl (lv_at hl 0 rfl) ?_
  refine lv_bipush (v := (-9 : Int32)) hx hb dX5_worksAt_7 (by decide) ?_
  refine lv_icmp_ne (tgt := 17) hx hb dX5_worksAt_9 (by decide) (fun c_2 => ?_) (fun c_2 => ?_)
  · have hf := pif hf c_2
    refine lv_aload_n hx hb dX5_worksAt_17 rfl (lv_at hl 1 rfl) ?_
    refine va_get (D := (dC, dI)) (ci := 5) (v := .ref a_o_s) (C := RX5) (T := TX5) (N := 29) hx hb hts uX5_worksAt_X5 hown hK hP 0 rfl rfl 21 (by decide) (hts _ mX5_worksAt_0) (fun _ h9 => h9) rfl dX5_worksAt_18 ?_
    refine lv_bipush (v := (14 : Int32)) hx hb dX5_worksAt_21 (by decide) ?_
    refine lv_iload_n hx hb dX5_worksAt_23 rfl (lv_at hl 0 rfl) ?_
    refine lv_iadd hx hb dX5_worksAt_24 ?_
    obtain ⟨h_3, hf⟩ := pgd hf
    refine va_iald hx hb hK hP 2 1 rfl rfl h_3 dX5_worksAt_25 ?_
    have q0 := Option.some.inj hf
    subst q0
    exact gRi hx hb hr hlocks hP hS dX5_worksAt_26
  · have hf := pit hf c_2
    refine lv_bipush (v := (-9 : Int32)) hx hb dX5_worksAt_12 (by decide) ?_
    refine lv_goto (tgt := 26) hx hb dX5_worksAt_14 (by decide) ?_
    have q0 := Option.some.inj hf
    subst q0
    exact gRi hx hb hr hlocks hP hS dX5_worksAt_26
abbrev rmX5_isIll : Room := { frames := 0, cells := 0, slots := 0, locals := 0 }
set_option maxRecDepth 20000 in
theorem uX5_isIll_X5 : ∀ w ∈ wsX50, w ∈ wsX5_isIll := by decide +kernel
set_option maxRecDepth 20000 in
theorem mX5_isIll_0 : (Cond.fieldLink RX5 34 "TradeWheelModel" "s" "[I" : Cond) ∈ wsX5_isIll := by decide +kernel
set_option maxHeartbeats 4000000 in
set_option maxRecDepth 100000 in
theorem kX5_isIll (l : Launch) (dC : Nat → ClassId) (dI : Nat → Nat → Nat) (Z : gZ) (cC cI cZ cW : ClassId) (a_o a_o_text a_o_need a_o_made a_o_skillTold a_o_placeTold a_o_skips a_o_wheelTold a_o_tunes a_o_s a_o_spare a_o_kept a_o_isKept a_o_makes a_o_works a_o_order : Nat) (sz : Nat) (o_thrown : Int32) (o_trace : Int64) (o_typed : Int32) (o_next : Int32) (o_token : Int32) (o_place : Int32) (o_value : Int32) (o_fault : Int32) (o_trades : Int32) (o_people : Int32) (o_draftTrades : Int32) (o_draftPeople : Int32) (o_isShut : Int32) (o_falling : Int32) (o_s : Nat → Int32) (i1 : Int32) (N : Nat) (r' : Int32) (hf : fX5_isIll N o_s  i1 = some r') : Met l yX5_isIll wsX5_isIll rmX5_isIll (va_Pc [.ref a_o, .int i1] (gB (dC, dI) Z [(cC, .char), (cI, .int), (cZ, .boolean), (cW, .object RX3)] [(a_o, .inr (5, [.int o_thrown, .long o_trace, .ref a_o_text, .int o_typed, .int o_next, .int o_token, .int o_place, .int o_value, .int o_fault, .ref a_o_need, .ref a_o_made, .ref a_o_skillTold, .ref a_o_placeTold, .ref a_o_skips, .ref a_o_wheelTold, .int o_trades, .int o_people, .int o_draftTrades, .int o_draftPeople, .int o_isShut, .ref a_o_tunes, .ref a_o_s, .ref a_o_spare, .ref a_o_kept, .ref a_o_isKept, .ref a_o_makes, .ref a_o_works, .ref a_o_order, .int o_falling])), (a_o_s, .inl (cI, 105, .inl o_s))] sz)) (va_Qi (fun (r : Int32) (_ : Unit) => r = r') (gE (dC, dI) [(a_o, .inr (5, [.int o_thrown, .long o_trace, .ref a_o_text, .int o_typed, .int o_next, .int o_token, .int o_place, .int o_value, .int o_fault, .ref a_o_need, .ref a_o_made, .ref a_o_skillTold, .ref a_o_placeTold, .ref a_o_skips, .ref a_o_wheelTold, .int o_trades, .int o_people, .int o_draftTrades, .int o_draftPeople, .int o_isShut, .ref a_o_tunes, .ref a_o_s, .ref a_o_spare, .ref a_o_kept, .ref a_o_isKept, .ref a_o_makes, .ref a_o_works, .ref a_o_order, .int o_falling])), (a_o_s, .inl (cI, 105, .inl o_s))]) (va_A [(a_o, .inr (5, [.int o_thrown, .long o_trace, .ref a_o_text, .int o_typed, .int o_next, .int o_token, .int o_place, .int o_value, .int o_fault, .ref a_o_need, .ref a_o_made, .ref a_o_skillTold, .ref a_o_placeTold, .ref a_o_skips, .ref a_o_wheelTold, .int o_trades, .int o_people, .int o_draftTrades, .int o_draftPeople, .int o_isShut, .ref a_o_tunes, .ref a_o_s, .ref a_o_spare, .ref a_o_kept, .ref a_o_isKept, .ref a_o_makes, .ref a_o_works, .ref a_o_order, .int o_falling])), (a_o_s, .inl (cI, 105, .inl o_s))] sz)) 0 0 (va_A [(a_o, .inr (5, [.int o_thrown, .long o_trace, .ref a_o_text, .int o_typed, .int o_next, .int o_token, .int o_place, .int o_value, .int o_fault, .ref a_o_need, .ref a_o_made, .ref a_o_skillTold, .ref a_o_placeTold, .ref a_o_skips, .ref a_o_wheelTold, .int o_trades, .int o_people, .int o_draftTrades, .int o_draftPeople, .int o_isShut, .ref a_o_tunes, .ref a_o_s, .ref a_o_spare, .ref a_o_kept, .ref a_o_isKept, .ref a_o_makes, .ref a_o_works, .ref a_o_order, .int o_falling])), (a_o_s, .inl (cI, 105, .inl o_s))] sz) := by
  refine gMet (cc := cX5_isIll) (maxL := 2) (ret := (some .boolean)) (Qc := fun A => va_Qi (fun (r : Int32) (_ : Unit) => r = r') (gE (dC, dI) [(a_o, .inr (5, [.int o_thrown, .long o_trace, .ref a_o_text, .int o_typed, .int o_next, .int o_token, .int o_place, .int o_value, .int o_fault, .ref a_o_need, .ref a_o_made, .ref a_o_skillTold, .ref a_o_placeTold, .ref a_o_skips, .ref a_o_wheelTold, .int o_trades, .int o_people, .int o_draftTrades, .int o_draftPeople, .int o_isShut, .ref a_o_tunes, .ref a_o_s, .ref a_o_spare, .ref a_o_kept, .ref a_o_isKept, .ref a_o_makes, .ref a_o_works, .ref a_o_order, .int o_falling])), (a_o_s, .inl (cI, 105, .inl o_s))]) A) (by decide) rfl (Nat.le_of_ble_eq_true rfl) ?_
  intro p e s m below meth c A ls hg0 _ hsz hP hD hS hl
  have hg0 : gX p s m _ meth c cX5_isIll 2 (some .boolean) wsX5_isIll RX5 (dC, dI) Z [(cC, .char), (cI, .int), (cZ, .boolean), (cW, .object RX3)] A := hg0
  obtain ⟨hx, hb, hr, hml, hown, hts, hlocks, hA, hK, hN⟩ := id hg0
  subst hsz
  have hF : CallFix p m c cX5_isIll 2 s _ wsX5_isIll RX5 := ⟨hx, hb, hml, hown, hts⟩
  have hl : lv_has ls 2 [(0, .ref a_o), (1, .int i1)] := hl
  unfold fX5_isIll at hf
  refine lv_aload_n hx hb dX5_isIll_0 rfl (lv_at hl 0 rfl) ?_
  refine va_get (D := (dC, dI)) (ci := 5) (v := .ref a_o_s) (C := RX5) (T := TX5) (N := 29) hx hb hts uX5_isIll_X5 hown hK hP 0 rfl rfl 21 (by decide) (hts _ mX5_isIll_0) (fun _ h9 => h9) rfl dX5_isIll_1 ?_
  refine lv_bipush (v := (32 : Int32)) hx hb dX5_isIll_4 (by decide) ?_
  obtain ⟨h_1, hf⟩ := pgd hf
  refine va_iald hx hb hK hP 1 1 rfl rfl h_1 dX5_isIll_6 ?_
  refine lv_iload_n hx hb dX5_isIll_7 rfl (lv_at hl 1 rfl) ?_
  refine lv_ishr hx hb dX5_isIll_8 ?_
  refine lv_iconst (v := (1 : Int32)) hx hb dX5_isIll_9 (by decide) ?_
  refine lv_iand hx hb dX5_isIll_10 ?_
  refine lv_iconst (v := (1 : Int32)) hx hb dX5_isIll_11 (by decide) ?_
  refine lv_icmp_ne (tgt := 19) hx hb dX5_isIll_12 (by decide) (fun c_2 => ?_) (fun c_2 => ?_)
  · have hf := pif hf c_2
    refine lv_iconst (v := (0 : Int32)) hx hb dX5_isIll_19 (by decide) ?_
    have q0 := Option.some.inj hf
    subst q0
    exact gRz hx hb hr rfl hlocks hP hS dX5_isIll_20
  · have hf := pit hf c_2
    refine lv_iconst (v := (1 : Int32)) hx hb dX5_isIll_15 (by decide) ?_
    refine lv_goto (tgt := 20) hx hb dX5_isIll_16 (by decide) ?_
    have q0 := Option.some.inj hf
    subst q0
    exact gRz hx hb hr rfl hlocks hP hS dX5_isIll_20
abbrev rmX5_person : Room := { frames := 2, cells := 0, slots := 0, locals := 45 }
set_option maxRecDepth 20000 in
theorem uX5_person_X5 : ∀ w ∈ wsX50, w ∈ wsX5_person := by decide +kernel
set_option maxRecDepth 20000 in
theorem mX5_person_0 : (Cond.fieldLink RX5 59 "TradeWheelModel" "thrown" "I" : Cond) ∈ wsX5_person := by decide +kernel
set_option maxRecDepth 20000 in
theorem mX5_person_1 : (Cond.fieldLink RX5 25 "TradeWheelModel" "skips" "[I" : Cond) ∈ wsX5_person := by decide +kernel
set_option maxRecDepth 20000 in
theorem mX5_person_2 : (Cond.fieldLink RX5 34 "TradeWheelModel" "s" "[I" : Cond) ∈ wsX5_person := by decide +kernel
set_option maxHeartbeats 4000000 in
set_option maxRecDepth 100000 in
theorem kX5_person (l : Launch) (dC : Nat → ClassId) (dI : Nat → Nat → Nat) (Z : gZ) (cC cI cZ cW : ClassId) (a_o a_o_text a_o_need a_o_made a_o_skillTold a_o_placeTold a_o_skips a_o_wheelTold a_o_tunes a_o_s a_o_spare a_o_kept a_o_isKept a_o_makes a_o_works a_o_order : Nat) (sz : Nat) (o_thrown : Int32) (o_trace : Int64) (o_typed : Int32) (o_next : Int32) (o_token : Int32) (o_place : Int32) (o_value : Int32) (o_fault : Int32) (o_trades : Int32) (o_people : Int32) (o_draftTrades : Int32) (o_draftPeople : Int32) (o_isShut : Int32) (o_falling : Int32) (o_skips : Nat → Int32) (o_s : Nat → Int32) (i1 : Int32) (i2 : Int32) (N : Nat) (r' : Int32) (o_thrown' : Int32) (hf : fX5_person N o_thrown o_trades o_people o_skips o_s  i1 i2 = some (r', o_thrown')) : Met l yX5_person wsX5_person rmX5_person (va_Pc [.ref a_o, .int i1, .int i2] (gB (dC, dI) Z [(cC, .char), (cI, .int), (cZ, .boolean), (cW, .object RX3)] [(a_o, .inr (5, [.int o_thrown, .long o_trace, .ref a_o_text, .int o_typed, .int o_next, .int o_token, .int o_place, .int o_value, .int o_fault, .ref a_o_need, .ref a_o_made, .ref a_o_skillTold, .ref a_o_placeTold, .ref a_o_skips, .ref a_o_wheelTold, .int o_trades, .int o_people, .int o_draftTrades, .int o_draftPeople, .int o_isShut, .ref a_o_tunes, .ref a_o_s, .ref a_o_spare, .ref a_o_kept, .ref a_o_isKept, .ref a_o_makes, .ref a_o_works, .ref a_o_order, .int o_falling])), (a_o_skips, .inl (cI, 12, .inl o_skips)), (a_o_s, .inl (cI, 105, .inl o_s))] sz)) (va_Qi (fun (r : Int32) (_ : Unit) => r = r') (gE (dC, dI) [(a_o, .inr (5, [.int o_thrown', .long o_trace, .ref a_o_text, .int o_typed, .int o_next, .int o_token, .int o_place, .int o_value, .int o_fault, .ref a_o_need, .ref a_o_made, .ref a_o_skillTold, .ref a_o_placeTold, .ref a_o_skips, .ref a_o_wheelTold, .int o_trades, .int o_people, .int o_draftTrades, .int o_draftPeople, .int o_isShut, .ref a_o_tunes, .ref a_o_s, .ref a_o_spare, .ref a_o_kept, .ref a_o_isKept, .ref a_o_makes, .ref a_o_works, .ref a_o_order, .int o_falling])), (a_o_skips, .inl (cI, 12, .inl o_skips)), (a_o_s, .inl (cI, 105, .inl o_s))]) (va_A [(a_o, .inr (5, [.int o_thrown, .long o_trace, .ref a_o_text, .int o_typed, .int o_next, .int o_token, .int o_place, .int o_value, .int o_fault, .ref a_o_need, .ref a_o_made, .ref a_o_skillTold, .ref a_o_placeTold, .ref a_o_skips, .ref a_o_wheelTold, .int o_trades, .int o_people, .int o_draftTrades, .int o_draftPeople, .int o_isShut, .ref a_o_tunes, .ref a_o_s, .ref a_o_spare, .ref a_o_kept, .ref a_o_isKept, .ref a_o_makes, .ref a_o_works, .ref a_o_order, .int o_falling])), (a_o_skips, .inl (cI, 12, .inl o_skips)), (a_o_s, .inl (cI, 105, .inl o_s))] sz)) 0 0 (va_A [(a_o, .inr (5, [.int o_thrown, .long o_trace, .ref a_o_text, .int o_typed, .int o_next, .int o_token, .int o_place, .int o_value, .int o_fault, .ref a_o_need, .ref a_o_made, .ref a_o_skillTold, .ref a_o_placeTold, .ref a_o_skips, .ref a_o_wheelTold, .int o_trades, .int o_people, .int o_draftTrades, .int o_draftPeople, .int o_isShut, .ref a_o_tunes, .ref a_o_s, .ref a_o_spare, .ref a_o_kept, .ref a_o_isKept, .ref a_o_makes, .ref a_o_works, .ref a_o_order, .int o_falling])), (a_o_skips, .inl (cI, 12, .inl o_skips)), (a_o_s, .inl (cI, 105, .inl o_s))] sz) := by
  refine gMet (cc := cX5_person) (maxL := 3) (ret := (some .int)) (Qc := fun A => va_Qi (fun (r : Int32) (_ : Unit) => r = r') (gE (dC, dI) [(a_o, .inr (5, [.int o_thrown', .long o_trace, .ref a_o_text, .int o_typed, .int o_next, .int o_token, .int o_place, .int o_value, .int o_fault, .ref a_o_need, .ref a_o_made, .ref a_o_skillTold, .ref a_o_placeTold, .ref a_o_skips, .ref a_o_wheelTold, .int o_trades, .int o_people, .int o_draftTrades, .int o_draftPeople, .int o_isShut, .ref a_o_tunes, .ref a_o_s, .ref a_o_spare, .ref a_o_kept, .ref a_o_isKept, .ref a_o_makes, .ref a_o_works, .ref a_o_order, .int o_falling])), (a_o_skips, .inl (cI, 12, .inl o_skips)), (a_o_s, .inl (cI, 105, .inl o_s))]) A) (by decide) rfl (Nat.le_of_ble_eq_true rfl) ?_
  intro p e s m below meth c A ls hg0 _ hsz hP hD hS hl
  have hg0 : gX p s m _ meth c cX5_person 3 (some .int) wsX5_person RX5 (dC, dI) Z [(cC, .char), (cI, .int), (cZ, .boolean), (cW, .object RX3)] A := hg0
  obtain ⟨hx, hb, hr, hml, hown, hts, hlocks, hA, hK, hN⟩ := id hg0
  subst hsz
  have hF : CallFix p m c cX5_person 3 s _ wsX5_person RX5 := ⟨hx, hb, hml, hown, hts⟩
  have hl : lv_has ls 3 [(0, .ref a_o), (1, .int i1), (2, .int i2)] := hl
  unfold fX5_person at hf
  refine lv_aload_n hx hb dX5_person_0 rfl (lv_at hl 0 rfl) ?_
  refine lv_iconst (v := (0 : Int32)) hx hb dX5_person_1 (by decide) ?_
  refine va_put (D := (dC, dI)) (ci := 5) (v := .int (0 : Int32)) (ty := .int) (C := RX5) (T := TX5) (N := 29) hx hb hts uX5_person_X5 tyX5 tyX5_ok nmX5 hown hK hP hD hS 0 rfl rfl 0 (by decide) (hts _ mX5_person_0) (fun _ h9 => h9) rfl (by decide +kernel) rfl rfl (Nat.le_of_ble_eq_true rfl) dX5_person_2 (fun H locs hP hD hS => ?_)
  have hP : va_P (dC, dI) vwCl [(a_o, .inr (5, [.int (0 : Int32), .long o_trace, .ref a_o_text, .int o_typed, .int o_next, .int o_token, .int o_place, .int o_value, .int o_fault, .ref a_o_need, .ref a_o_made, .ref a_o_skillTold, .ref a_o_placeTold, .ref a_o_skips, .ref a_o_wheelTold, .int o_trades, .int o_people, .int o_draftTrades, .int o_draftPeople, .int o_isShut, .ref a_o_tunes, .ref a_o_s, .ref a_o_spare, .ref a_o_kept, .ref a_o_isKept, .ref a_o_makes, .ref a_o_works, .ref a_o_order, .int o_falling])), (a_o_skips, .inl (cI, 12, .inl o_skips)), (a_o_s, .inl (cI, 105, .inl o_s))] H := hP
  have hD : va_D A [(a_o, .inr (5, [.int (0 : Int32), .long o_trace, .ref a_o_text, .int o_typed, .int o_next, .int o_token, .int o_place, .int o_value, .int o_fault, .ref a_o_need, .ref a_o_made, .ref a_o_skillTold, .ref a_o_placeTold, .ref a_o_skips, .ref a_o_wheelTold, .int o_trades, .int o_people, .int o_draftTrades, .int o_draftPeople, .int o_isShut, .ref a_o_tunes, .ref a_o_s, .ref a_o_spare, .ref a_o_kept, .ref a_o_isKept, .ref a_o_makes, .ref a_o_works, .ref a_o_order, .int o_falling])), (a_o_skips, .inl (cI, 12, .inl o_skips)), (a_o_s, .inl (cI, 105, .inl o_s))] := hD
  refine lv_aload_n hx hb dX5_person_5 rfl (lv_at hl 0 rfl) ?_
  refine lv_iload_n hx hb dX5_person_6 rfl (lv_at hl 1 rfl) ?_
  obtain ⟨r_1, hc, hf⟩ := pb1 hf
  refine gCi (va_runV (As := [.int i1]) (rest := []) hF (kX5_isPerson l dC dI Z cC cI cZ cW a_o a_o_text a_o_need a_o_made a_o_skillTold a_o_placeTold a_o_skips a_o_wheelTold a_o_tunes a_o_s a_o_spare a_o_kept a_o_isKept a_o_makes a_o_works a_o_order _ (0 : Int32) o_trace o_typed o_next o_token o_place o_value o_fault o_trades o_people o_draftTrades o_draftPeople o_isShut o_falling i1 N r_1 hc) (cwV 1 hts gX5_person_X5_isPerson rfl rfl rfl (by decide +kernel) ⟨Nat.le_of_ble_eq_true rfl, Nat.le_of_ble_eq_true rfl⟩) (gPV (wc := [(a_o, .inr (5, [.int (0 : Int32), .long o_trace, .ref a_o_text, .int o_typed, .int o_next, .int o_token, .int o_place, .int o_value, .int o_fault, .ref a_o_need, .ref a_o_made, .ref a_o_skillTold, .ref a_o_placeTold, .ref a_o_skips, .ref a_o_wheelTold, .int o_trades, .int o_people, .int o_draftTrades, .int o_draftPeople, .int o_isShut, .ref a_o_tunes, .ref a_o_s, .ref a_o_spare, .ref a_o_kept, .ref a_o_isKept, .ref a_o_makes, .ref a_o_works, .ref a_o_order, .int o_falling]))]) hK hN hA hS hP hD [0] rfl rfl (q0 := 0) (ci := 5) rfl rfl rfl) rfl rfl hl.1 rfl (lv_room (Nat.le_of_ble_eq_true rfl)) dX5_person_7 ⟨Nat.zero_le _, Nat.zero_le _⟩) hP hD hS hA [0] rfl rfl rfl (fun H locs hP hD hS => ?_)
  have hP : va_P (dC, dI) vwCl [(a_o, .inr (5, [.int (0 : Int32), .long o_trace, .ref a_o_text, .int o_typed, .int o_next, .int o_token, .int o_place, .int o_value, .int o_fault, .ref a_o_need, .ref a_o_made, .ref a_o_skillTold, .ref a_o_placeTold, .ref a_o_skips, .ref a_o_wheelTold, .int o_trades, .int o_people, .int o_draftTrades, .int o_draftPeople, .int o_isShut, .ref a_o_tunes, .ref a_o_s, .ref a_o_spare, .ref a_o_kept, .ref a_o_isKept, .ref a_o_makes, .ref a_o_works, .ref a_o_order, .int o_falling])), (a_o_skips, .inl (cI, 12, .inl o_skips)), (a_o_s, .inl (cI, 105, .inl o_s))] H := hP
  have hD : va_D A [(a_o, .inr (5, [.int (0 : Int32), .long o_trace, .ref a_o_text, .int o_typed, .int o_next, .int o_token, .int o_place, .int o_value, .int o_fault, .ref a_o_need, .ref a_o_made, .ref a_o_skillTold, .ref a_o_placeTold, .ref a_o_skips, .ref a_o_wheelTold, .int o_trades, .int o_people, .int o_draftTrades, .int o_draftPeople, .int o_isShut, .ref a_o_tunes, .ref a_o_s, .ref a_o_spare, .ref a_o_kept, .ref a_o_isKept, .ref a_o_makes, .ref a_o_works, .ref a_o_order, .int o_falling])), (a_o_skips, .inl (cI, 12, .inl o_skips)), (a_o_s, .inl (cI, 105, .inl o_s))] := hD
  refine lv_if_eq (tgt := 22) hx hb dX5_person_10 (by decide) (fun c_2 => ?_) (fun c_2 => ?_)
  · have hf := pit hf c_2
    refine lv_iconst (v := (-1 : Int32)) hx hb dX5_person_22 (by decide) ?_
    have q0 := Option.some.inj hf
    obtain ⟨e0, q1⟩ := Prod.mk.inj q0
    subst e0
    subst q1
    exact gRi hx hb hr hlocks hP hS dX5_person_23
  · have hf := pif hf c_2
    refine lv_iload_n hx hb dX5_person_13 rfl (lv_at hl 2 rfl) ?_
    refine lv_iconst (v := (0 : Int32)) hx hb dX5_person_14 (by decide) ?_
    refine lv_iconst (v := (4 : Int32)) hx hb dX5_person_15 (by decide) ?_
    obtain ⟨r_3, hc, hf⟩ := pb1 hf
    refine gCi (va_runS (As := [.int i2, .int (0 : Int32), .int (4 : Int32)]) (rest := []) hF (kX5_in l dC dI Z cC cI cZ cW  _  i2 (0 : Int32) (4 : Int32) N r_3 hc) (cwS 3 hts gX5_person_X5_in rfl rfl rfl (by decide +kernel) ⟨Nat.le_of_ble_eq_true rfl, Nat.le_of_ble_eq_true rfl⟩) (gPS (wc := []) hK hN hA hS hP hD [] rfl rfl) rfl rfl hl.1 rfl (lv_room (Nat.le_of_ble_eq_true rfl)) dX5_person_16 ⟨Nat.zero_le _, Nat.zero_le _⟩) hP hD hS hA [] rfl rfl rfl (fun H locs hP hD hS => ?_)
    have hP : va_P (dC, dI) vwCl [(a_o, .inr (5, [.int (0 : Int32), .long o_trace, .ref a_o_text, .int o_typed, .int o_next, .int o_token, .int o_place, .int o_value, .int o_fault, .ref a_o_need, .ref a_o_made, .ref a_o_skillTold, .ref a_o_placeTold, .ref a_o_skips, .ref a_o_wheelTold, .int o_trades, .int o_people, .int o_draftTrades, .int o_draftPeople, .int o_isShut, .ref a_o_tunes, .ref a_o_s, .ref a_o_spare, .ref a_o_kept, .ref a_o_isKept, .ref a_o_makes, .ref a_o_works, .ref a_o_order, .int o_falling])), (a_o_skips, .inl (cI, 12, .inl o_skips)), (a_o_s, .inl (cI, 105, .inl o_s))] H := hP
    have hD : va_D A [(a_o, .inr (5, [.int (0 : Int32), .long o_trace, .ref a_o_text, .int o_typed, .int o_next, .int o_token, .int o_place, .int o_value, .int o_fault, .ref a_o_need, .ref a_o_made, .ref a_o_skillTold, .ref a_o_placeTold, .ref a_o_skips, .ref a_o_wheelTold, .int o_trades, .int o_people, .int o_draftTrades, .int o_draftPeople, .int o_isShut, .ref a_o_tunes, .ref a_o_s, .ref a_o_spare, .ref a_o_kept, .ref a_o_isKept, .ref a_o_makes, .ref a_o_works, .ref a_o_order, .int o_falling])), (a_o_skips, .inl (cI, 12, .inl o_skips)), (a_o_s, .inl (cI, 105, .inl o_s))] := hD
    refine lv_if_ne (tgt := 24) hx hb dX5_person_19 (by decide) (fun c_4 => ?_) (fun c_4 => ?_)
    · have hf := pif hf c_4
      refine lv_iload_n hx hb dX5_person_24 rfl (lv_at hl 2 rfl) ?_
      refine lv_if_ne (tgt := 40) hx hb dX5_person_25 (by decide) (fun c_5 => ?_) (fun c_5 => ?_)
      · have hf := pif hf c_5
        refine lv_iload_n hx hb dX5_person_40 rfl (lv_at hl 2 rfl) ?_
        refine lv_iconst (v := (1 : Int32)) hx hb dX5_person_41 (by decide) ?_
        refine lv_icmp_ne (tgt := 53) hx hb dX5_person_42 (by decide) (fun c_6 => ?_) (fun c_6 => ?_)
        · have hf := pif hf c_6
          refine lv_iload_n hx hb dX5_person_53 rfl (lv_at hl 2 rfl) ?_
          refine lv_iconst (v := (2 : Int32)) hx hb dX5_person_54 (by decide) ?_
          refine lv_icmp_ne (tgt := 72) hx hb dX5_person_55 (by decide) (fun c_7 => ?_) (fun c_7 => ?_)
          · have hf := pif hf c_7
            refine lv_iload_n hx hb dX5_person_72 rfl (lv_at hl 2 rfl) ?_
            refine lv_iconst (v := (3 : Int32)) hx hb dX5_person_73 (by decide) ?_
            refine lv_icmp_ne (tgt := 89) hx hb dX5_person_74 (by decide) (fun c_8 => ?_) (fun c_8 => ?_)
            · have hf := pif hf c_8
              refine lv_aload_n hx hb dX5_person_89 rfl (lv_at hl 0 rfl) ?_
              refine va_get (D := (dC, dI)) (ci := 5) (v := .ref a_o_skips) (C := RX5) (T := TX5) (N := 29) hx hb hts uX5_person_X5 hown hK hP 0 rfl rfl 13 (by decide) (hts _ mX5_person_1) (fun _ h9 => h9) rfl dX5_person_90 ?_
              refine lv_iload_n hx hb dX5_person_93 rfl (lv_at hl 1 rfl) ?_
              obtain ⟨h_9, hf⟩ := pgd hf
              refine va_iald hx hb hK hP 1 1 rfl rfl h_9 dX5_person_94 ?_
              have q0 := Option.some.inj hf
              obtain ⟨e0, q1⟩ := Prod.mk.inj q0
              subst e0
              subst q1
              exact gRi hx hb hr hlocks hP hS dX5_person_95
            · have hf := pit hf c_8
              refine lv_aload_n hx hb dX5_person_77 rfl (lv_at hl 0 rfl) ?_
              refine va_get (D := (dC, dI)) (ci := 5) (v := .ref a_o_s) (C := RX5) (T := TX5) (N := 29) hx hb hts uX5_person_X5 hown hK hP 0 rfl rfl 21 (by decide) (hts _ mX5_person_2) (fun _ h9 => h9) rfl dX5_person_78 ?_
              refine lv_bipush (v := (26 : Int32)) hx hb dX5_person_81 (by decide) ?_
              refine lv_iload_n hx hb dX5_person_83 rfl (lv_at hl 1 rfl) ?_
              refine lv_iadd hx hb dX5_person_84 ?_
              obtain ⟨h_10, hf⟩ := pgd hf
              refine va_iald hx hb hK hP 2 1 rfl rfl h_10 dX5_person_85 ?_
              refine lv_goto (tgt := 95) hx hb dX5_person_86 (by decide) ?_
              have q0 := Option.some.inj hf
              obtain ⟨e0, q1⟩ := Prod.mk.inj q0
              subst e0
              subst q1
              exact gRi hx hb hr hlocks hP hS dX5_person_95
          · have hf := pit hf c_7
            refine lv_aload_n hx hb dX5_person_58 rfl (lv_at hl 0 rfl) ?_
            refine va_get (D := (dC, dI)) (ci := 5) (v := .ref a_o_s) (C := RX5) (T := TX5) (N := 29) hx hb hts uX5_person_X5 hown hK hP 0 rfl rfl 21 (by decide) (hts _ mX5_person_2) (fun _ h9 => h9) rfl dX5_person_59 ?_
            refine lv_bipush (v := (32 : Int32)) hx hb dX5_person_62 (by decide) ?_
            obtain ⟨h_11, hf⟩ := pgd hf
            refine va_iald hx hb hK hP 2 1 rfl rfl h_11 dX5_person_64 ?_
            refine lv_iload_n hx hb dX5_person_65 rfl (lv_at hl 1 rfl) ?_
            refine lv_ishr hx hb dX5_person_66 ?_
            refine lv_iconst (v := (1 : Int32)) hx hb dX5_person_67 (by decide) ?_
            refine lv_iand hx hb dX5_person_68 ?_
            refine lv_goto (tgt := 95) hx hb dX5_person_69 (by decide) ?_
            have q0 := Option.some.inj hf
            obtain ⟨e0, q1⟩ := Prod.mk.inj q0
            subst e0
            subst q1
            exact gRi hx hb hr hlocks hP hS dX5_person_95
        · have hf := pit hf c_6
          refine lv_aload_n hx hb dX5_person_45 rfl (lv_at hl 0 rfl) ?_
          refine lv_iload_n hx hb dX5_person_46 rfl (lv_at hl 1 rfl) ?_
          obtain ⟨r_12, hc, hf⟩ := pb1 hf
          refine gCi (va_runV (As := [.int i1]) (rest := []) hF (kX5_worksAt l dC dI Z cC cI cZ cW a_o a_o_text a_o_need a_o_made a_o_skillTold a_o_placeTold a_o_skips a_o_wheelTold a_o_tunes a_o_s a_o_spare a_o_kept a_o_isKept a_o_makes a_o_works a_o_order _ (0 : Int32) o_trace o_typed o_next o_token o_place o_value o_fault o_trades o_people o_draftTrades o_draftPeople o_isShut o_falling o_skips o_s i1 N r_12 hc) (cwV 1 hts gX5_person_X5_worksAt rfl rfl rfl (by decide +kernel) ⟨Nat.le_of_ble_eq_true rfl, Nat.le_of_ble_eq_true rfl⟩) (gPV (wc := [(a_o, .inr (5, [.int (0 : Int32), .long o_trace, .ref a_o_text, .int o_typed, .int o_next, .int o_token, .int o_place, .int o_value, .int o_fault, .ref a_o_need, .ref a_o_made, .ref a_o_skillTold, .ref a_o_placeTold, .ref a_o_skips, .ref a_o_wheelTold, .int o_trades, .int o_people, .int o_draftTrades, .int o_draftPeople, .int o_isShut, .ref a_o_tunes, .ref a_o_s, .ref a_o_spare, .ref a_o_kept, .ref a_o_isKept, .ref a_o_makes, .ref a_o_works, .ref a_o_order, .int o_falling])), (a_o_skips, .inl (cI, 12, .inl o_skips)), (a_o_s, .inl (cI, 105, .inl o_s))]) hK hN hA hS hP hD [0, 1, 2] rfl rfl (q0 := 0) (ci := 5) rfl rfl rfl) rfl rfl hl.1 rfl (lv_room (Nat.le_of_ble_eq_true rfl)) dX5_person_47 ⟨Nat.zero_le _, Nat.zero_le _⟩) hP hD hS hA [0, 1, 2] rfl rfl rfl (fun H locs hP hD hS => ?_)
          have hP : va_P (dC, dI) vwCl [(a_o, .inr (5, [.int (0 : Int32), .long o_trace, .ref a_o_text, .int o_typed, .int o_next, .int o_token, .int o_place, .int o_value, .int o_fault, .ref a_o_need, .ref a_o_made, .ref a_o_skillTold, .ref a_o_placeTold, .ref a_o_skips, .ref a_o_wheelTold, .int o_trades, .int o_people, .int o_draftTrades, .int o_draftPeople, .int o_isShut, .ref a_o_tunes, .ref a_o_s, .ref a_o_spare, .ref a_o_kept, .ref a_o_isKept, .ref a_o_makes, .ref a_o_works, .ref a_o_order, .int o_falling])), (a_o_skips, .inl (cI, 12, .inl o_skips)), (a_o_s, .inl (cI, 105, .inl o_s))] H := hP
          have hD : va_D A [(a_o, .inr (5, [.int (0 : Int32), .long o_trace, .ref a_o_text, .int o_typed, .int o_next, .int o_token, .int o_place, .int o_value, .int o_fault, .ref a_o_need, .ref a_o_made, .ref a_o_skillTold, .ref a_o_placeTold, .ref a_o_skips, .ref a_o_wheelTold, .int o_trades, .int o_people, .int o_draftTrades, .int o_draftPeople, .int o_isShut, .ref a_o_tunes, .ref a_o_s, .ref a_o_spare, .ref a_o_kept, .ref a_o_isKept, .ref a_o_makes, .ref a_o_works, .ref a_o_order, .int o_falling])), (a_o_skips, .inl (cI, 12, .inl o_skips)), (a_o_s, .inl (cI, 105, .inl o_s))] := hD
          refine lv_goto (tgt := 95) hx hb dX5_person_50 (by decide) ?_
          have q0 := Option.some.inj hf
          obtain ⟨e0, q1⟩ := Prod.mk.inj q0
          subst e0
          subst q1
          exact gRi hx hb hr hlocks hP hS dX5_person_95
      · have hf := pit hf c_5
        refine lv_aload_n hx hb dX5_person_28 rfl (lv_at hl 0 rfl) ?_
        refine va_get (D := (dC, dI)) (ci := 5) (v := .ref a_o_s) (C := RX5) (T := TX5) (N := 29) hx hb hts uX5_person_X5 hown hK hP 0 rfl rfl 21 (by decide) (hts _ mX5_person_2) (fun _ h9 => h9) rfl dX5_person_29 ?_
        refine lv_bipush (v := (20 : Int32)) hx hb dX5_person_32 (by decide) ?_
        refine lv_iload_n hx hb dX5_person_34 rfl (lv_at hl 1 rfl) ?_
        refine lv_iadd hx hb dX5_person_35 ?_
        obtain ⟨h_13, hf⟩ := pgd hf
        refine va_iald hx hb hK hP 2 1 rfl rfl h_13 dX5_person_36 ?_
        refine lv_goto (tgt := 95) hx hb dX5_person_37 (by decide) ?_
        have q0 := Option.some.inj hf
        obtain ⟨e0, q1⟩ := Prod.mk.inj q0
        subst e0
        subst q1
        exact gRi hx hb hr hlocks hP hS dX5_person_95
    · have hf := pit hf c_4
      refine lv_iconst (v := (-1 : Int32)) hx hb dX5_person_22 (by decide) ?_
      have q0 := Option.some.inj hf
      obtain ⟨e0, q1⟩ := Prod.mk.inj q0
      subst e0
      subst q1
      exact gRi hx hb hr hlocks hP hS dX5_person_23
abbrev rmX5_wheel : Room := { frames := 2, cells := 0, slots := 0, locals := 43 }
set_option maxRecDepth 20000 in
theorem uX5_wheel_X5 : ∀ w ∈ wsX50, w ∈ wsX5_wheel := by decide +kernel
set_option maxRecDepth 20000 in
theorem mX5_wheel_0 : (Cond.fieldLink RX5 59 "TradeWheelModel" "thrown" "I" : Cond) ∈ wsX5_wheel := by decide +kernel
set_option maxRecDepth 20000 in
theorem mX5_wheel_1 : (Cond.fieldLink RX5 34 "TradeWheelModel" "s" "[I" : Cond) ∈ wsX5_wheel := by decide +kernel
set_option maxHeartbeats 4000000 in
set_option maxRecDepth 100000 in
theorem kX5_wheel (l : Launch) (dC : Nat → ClassId) (dI : Nat → Nat → Nat) (Z : gZ) (cC cI cZ cW : ClassId) (a_o a_o_text a_o_need a_o_made a_o_skillTold a_o_placeTold a_o_skips a_o_wheelTold a_o_tunes a_o_s a_o_spare a_o_kept a_o_isKept a_o_makes a_o_works a_o_order : Nat) (sz : Nat) (o_thrown : Int32) (o_trace : Int64) (o_typed : Int32) (o_next : Int32) (o_token : Int32) (o_place : Int32) (o_value : Int32) (o_fault : Int32) (o_trades : Int32) (o_people : Int32) (o_draftTrades : Int32) (o_draftPeople : Int32) (o_isShut : Int32) (o_falling : Int32) (o_s : Nat → Int32) (i1 : Int32) (N : Nat) (r' : Int32) (o_thrown' : Int32) (hf : fX5_wheel N o_thrown o_trades o_s  i1 = some (r', o_thrown')) : Met l yX5_wheel wsX5_wheel rmX5_wheel (va_Pc [.ref a_o, .int i1] (gB (dC, dI) Z [(cC, .char), (cI, .int), (cZ, .boolean), (cW, .object RX3)] [(a_o, .inr (5, [.int o_thrown, .long o_trace, .ref a_o_text, .int o_typed, .int o_next, .int o_token, .int o_place, .int o_value, .int o_fault, .ref a_o_need, .ref a_o_made, .ref a_o_skillTold, .ref a_o_placeTold, .ref a_o_skips, .ref a_o_wheelTold, .int o_trades, .int o_people, .int o_draftTrades, .int o_draftPeople, .int o_isShut, .ref a_o_tunes, .ref a_o_s, .ref a_o_spare, .ref a_o_kept, .ref a_o_isKept, .ref a_o_makes, .ref a_o_works, .ref a_o_order, .int o_falling])), (a_o_s, .inl (cI, 105, .inl o_s))] sz)) (va_Qi (fun (r : Int32) (_ : Unit) => r = r') (gE (dC, dI) [(a_o, .inr (5, [.int o_thrown', .long o_trace, .ref a_o_text, .int o_typed, .int o_next, .int o_token, .int o_place, .int o_value, .int o_fault, .ref a_o_need, .ref a_o_made, .ref a_o_skillTold, .ref a_o_placeTold, .ref a_o_skips, .ref a_o_wheelTold, .int o_trades, .int o_people, .int o_draftTrades, .int o_draftPeople, .int o_isShut, .ref a_o_tunes, .ref a_o_s, .ref a_o_spare, .ref a_o_kept, .ref a_o_isKept, .ref a_o_makes, .ref a_o_works, .ref a_o_order, .int o_falling])), (a_o_s, .inl (cI, 105, .inl o_s))]) (va_A [(a_o, .inr (5, [.int o_thrown, .long o_trace, .ref a_o_text, .int o_typed, .int o_next, .int o_token, .int o_place, .int o_value, .int o_fault, .ref a_o_need, .ref a_o_made, .ref a_o_skillTold, .ref a_o_placeTold, .ref a_o_skips, .ref a_o_wheelTold, .int o_trades, .int o_people, .int o_draftTrades, .int o_draftPeople, .int o_isShut, .ref a_o_tunes, .ref a_o_s, .ref a_o_spare, .ref a_o_kept, .ref a_o_isKept, .ref a_o_makes, .ref a_o_works, .ref a_o_order, .int o_falling])), (a_o_s, .inl (cI, 105, .inl o_s))] sz)) 0 0 (va_A [(a_o, .inr (5, [.int o_thrown, .long o_trace, .ref a_o_text, .int o_typed, .int o_next, .int o_token, .int o_place, .int o_value, .int o_fault, .ref a_o_need, .ref a_o_made, .ref a_o_skillTold, .ref a_o_placeTold, .ref a_o_skips, .ref a_o_wheelTold, .int o_trades, .int o_people, .int o_draftTrades, .int o_draftPeople, .int o_isShut, .ref a_o_tunes, .ref a_o_s, .ref a_o_spare, .ref a_o_kept, .ref a_o_isKept, .ref a_o_makes, .ref a_o_works, .ref a_o_order, .int o_falling])), (a_o_s, .inl (cI, 105, .inl o_s))] sz) := by
  refine gMet (cc := cX5_wheel) (maxL := 2) (ret := (some .int)) (Qc := fun A => va_Qi (fun (r : Int32) (_ : Unit) => r = r') (gE (dC, dI) [(a_o, .inr (5, [.int o_thrown', .long o_trace, .ref a_o_text, .int o_typed, .int o_next, .int o_token, .int o_place, .int o_value, .int o_fault, .ref a_o_need, .ref a_o_made, .ref a_o_skillTold, .ref a_o_placeTold, .ref a_o_skips, .ref a_o_wheelTold, .int o_trades, .int o_people, .int o_draftTrades, .int o_draftPeople, .int o_isShut, .ref a_o_tunes, .ref a_o_s, .ref a_o_spare, .ref a_o_kept, .ref a_o_isKept, .ref a_o_makes, .ref a_o_works, .ref a_o_order, .int o_falling])), (a_o_s, .inl (cI, 105, .inl o_s))]) A) (by decide) rfl (Nat.le_of_ble_eq_true rfl) ?_
  intro p e s m below meth c A ls hg0 _ hsz hP hD hS hl
  have hg0 : gX p s m _ meth c cX5_wheel 2 (some .int) wsX5_wheel RX5 (dC, dI) Z [(cC, .char), (cI, .int), (cZ, .boolean), (cW, .object RX3)] A := hg0
  obtain ⟨hx, hb, hr, hml, hown, hts, hlocks, hA, hK, hN⟩ := id hg0
  subst hsz
  have hF : CallFix p m c cX5_wheel 2 s _ wsX5_wheel RX5 := ⟨hx, hb, hml, hown, hts⟩
  have hl : lv_has ls 2 [(0, .ref a_o), (1, .int i1)] := hl
  unfold fX5_wheel at hf
  refine lv_aload_n hx hb dX5_wheel_0 rfl (lv_at hl 0 rfl) ?_
  refine lv_iconst (v := (0 : Int32)) hx hb dX5_wheel_1 (by decide) ?_
  refine va_put (D := (dC, dI)) (ci := 5) (v := .int (0 : Int32)) (ty := .int) (C := RX5) (T := TX5) (N := 29) hx hb hts uX5_wheel_X5 tyX5 tyX5_ok nmX5 hown hK hP hD hS 0 rfl rfl 0 (by decide) (hts _ mX5_wheel_0) (fun _ h9 => h9) rfl (by decide +kernel) rfl rfl (Nat.le_of_ble_eq_true rfl) dX5_wheel_2 (fun H locs hP hD hS => ?_)
  have hP : va_P (dC, dI) vwCl [(a_o, .inr (5, [.int (0 : Int32), .long o_trace, .ref a_o_text, .int o_typed, .int o_next, .int o_token, .int o_place, .int o_value, .int o_fault, .ref a_o_need, .ref a_o_made, .ref a_o_skillTold, .ref a_o_placeTold, .ref a_o_skips, .ref a_o_wheelTold, .int o_trades, .int o_people, .int o_draftTrades, .int o_draftPeople, .int o_isShut, .ref a_o_tunes, .ref a_o_s, .ref a_o_spare, .ref a_o_kept, .ref a_o_isKept, .ref a_o_makes, .ref a_o_works, .ref a_o_order, .int o_falling])), (a_o_s, .inl (cI, 105, .inl o_s))] H := hP
  have hD : va_D A [(a_o, .inr (5, [.int (0 : Int32), .long o_trace, .ref a_o_text, .int o_typed, .int o_next, .int o_token, .int o_place, .int o_value, .int o_fault, .ref a_o_need, .ref a_o_made, .ref a_o_skillTold, .ref a_o_placeTold, .ref a_o_skips, .ref a_o_wheelTold, .int o_trades, .int o_people, .int o_draftTrades, .int o_draftPeople, .int o_isShut, .ref a_o_tunes, .ref a_o_s, .ref a_o_spare, .ref a_o_kept, .ref a_o_isKept, .ref a_o_makes, .ref a_o_works, .ref a_o_order, .int o_falling])), (a_o_s, .inl (cI, 105, .inl o_s))] := hD
  refine lv_aload_n hx hb dX5_wheel_5 rfl (lv_at hl 0 rfl) ?_
  refine lv_iload_n hx hb dX5_wheel_6 rfl (lv_at hl 1 rfl) ?_
  obtain ⟨r_1, hc, hf⟩ := pb1 hf
  refine gCi (va_runV (As := [.int i1]) (rest := []) hF (kX5_isTrade l dC dI Z cC cI cZ cW a_o a_o_text a_o_need a_o_made a_o_skillTold a_o_placeTold a_o_skips a_o_wheelTold a_o_tunes a_o_s a_o_spare a_o_kept a_o_isKept a_o_makes a_o_works a_o_order _ (0 : Int32) o_trace o_typed o_next o_token o_place o_value o_fault o_trades o_people o_draftTrades o_draftPeople o_isShut o_falling i1 N r_1 hc) (cwV 1 hts gX5_wheel_X5_isTrade rfl rfl rfl (by decide +kernel) ⟨Nat.le_of_ble_eq_true rfl, Nat.le_of_ble_eq_true rfl⟩) (gPV (wc := [(a_o, .inr (5, [.int (0 : Int32), .long o_trace, .ref a_o_text, .int o_typed, .int o_next, .int o_token, .int o_place, .int o_value, .int o_fault, .ref a_o_need, .ref a_o_made, .ref a_o_skillTold, .ref a_o_placeTold, .ref a_o_skips, .ref a_o_wheelTold, .int o_trades, .int o_people, .int o_draftTrades, .int o_draftPeople, .int o_isShut, .ref a_o_tunes, .ref a_o_s, .ref a_o_spare, .ref a_o_kept, .ref a_o_isKept, .ref a_o_makes, .ref a_o_works, .ref a_o_order, .int o_falling]))]) hK hN hA hS hP hD [0] rfl rfl (q0 := 0) (ci := 5) rfl rfl rfl) rfl rfl hl.1 rfl (lv_room (Nat.le_of_ble_eq_true rfl)) dX5_wheel_7 ⟨Nat.zero_le _, Nat.zero_le _⟩) hP hD hS hA [0] rfl rfl rfl (fun H locs hP hD hS => ?_)
  have hP : va_P (dC, dI) vwCl [(a_o, .inr (5, [.int (0 : Int32), .long o_trace, .ref a_o_text, .int o_typed, .int o_next, .int o_token, .int o_place, .int o_value, .int o_fault, .ref a_o_need, .ref a_o_made, .ref a_o_skillTold, .ref a_o_placeTold, .ref a_o_skips, .ref a_o_wheelTold, .int o_trades, .int o_people, .int o_draftTrades, .int o_draftPeople, .int o_isShut, .ref a_o_tunes, .ref a_o_s, .ref a_o_spare, .ref a_o_kept, .ref a_o_isKept, .ref a_o_makes, .ref a_o_works, .ref a_o_order, .int o_falling])), (a_o_s, .inl (cI, 105, .inl o_s))] H := hP
  have hD : va_D A [(a_o, .inr (5, [.int (0 : Int32), .long o_trace, .ref a_o_text, .int o_typed, .int o_next, .int o_token, .int o_place, .int o_value, .int o_fault, .ref a_o_need, .ref a_o_made, .ref a_o_skillTold, .ref a_o_placeTold, .ref a_o_skips, .ref a_o_wheelTold, .int o_trades, .int o_people, .int o_draftTrades, .int o_draftPeople, .int o_isShut, .ref a_o_tunes, .ref a_o_s, .ref a_o_spare, .ref a_o_kept, .ref a_o_isKept, .ref a_o_makes, .ref a_o_works, .ref a_o_order, .int o_falling])), (a_o_s, .inl (cI, 105, .inl o_s))] := hD
  refine lv_if_eq (tgt := 25) hx hb dX5_wheel_10 (by decide) (fun c_2 => ?_) (fun c_2 => ?_)
  · have hf := pit hf c_2
    refine lv_iconst (v := (-1 : Int32)) hx hb dX5_wheel_25 (by decide) ?_
    have q0 := Option.some.inj hf
    obtain ⟨e0, q1⟩ := Prod.mk.inj q0
    subst e0
    subst q1
    exact gRi hx hb hr hlocks hP hS dX5_wheel_26
  · have hf := pif hf c_2
    refine lv_aload_n hx hb dX5_wheel_13 rfl (lv_at hl 0 rfl) ?_
    refine va_get (D := (dC, dI)) (ci := 5) (v := .ref a_o_s) (C := RX5) (T := TX5) (N := 29) hx hb hts uX5_wheel_X5 hown hK hP 0 rfl rfl 21 (by decide) (hts _ mX5_wheel_1) (fun _ h9 => h9) rfl dX5_wheel_14 ?_
    refine lv_bipush (v := (14 : Int32)) hx hb dX5_wheel_17 (by decide) ?_
    refine lv_iload_n hx hb dX5_wheel_19 rfl (lv_at hl 1 rfl) ?_
    refine lv_iadd hx hb dX5_wheel_20 ?_
    obtain ⟨h_3, hf⟩ := pgd hf
    refine va_iald hx hb hK hP 1 1 rfl rfl h_3 dX5_wheel_21 ?_
    refine lv_goto (tgt := 26) hx hb dX5_wheel_22 (by decide) ?_
    have q0 := Option.some.inj hf
    obtain ⟨e0, q1⟩ := Prod.mk.inj q0
    subst e0
    subst q1
    exact gRi hx hb hr hlocks hP hS dX5_wheel_26
abbrev rmX5_tune : Room := { frames := 1, cells := 0, slots := 0, locals := 22 }
set_option maxRecDepth 20000 in
theorem uX5_tune_X5 : ∀ w ∈ wsX50, w ∈ wsX5_tune := by decide +kernel
set_option maxRecDepth 20000 in
theorem mX5_tune_0 : (Cond.fieldLink RX5 59 "TradeWheelModel" "thrown" "I" : Cond) ∈ wsX5_tune := by decide +kernel
set_option maxRecDepth 20000 in
theorem mX5_tune_1 : (Cond.fieldLink RX5 31 "TradeWheelModel" "tunes" "[I" : Cond) ∈ wsX5_tune := by decide +kernel
set_option maxHeartbeats 4000000 in
set_option maxRecDepth 100000 in
theorem kX5_tune (l : Launch) (dC : Nat → ClassId) (dI : Nat → Nat → Nat) (Z : gZ) (cC cI cZ cW : ClassId) (a_o a_o_text a_o_need a_o_made a_o_skillTold a_o_placeTold a_o_skips a_o_wheelTold a_o_tunes a_o_s a_o_spare a_o_kept a_o_isKept a_o_makes a_o_works a_o_order : Nat) (sz : Nat) (o_thrown : Int32) (o_trace : Int64) (o_typed : Int32) (o_next : Int32) (o_token : Int32) (o_place : Int32) (o_value : Int32) (o_fault : Int32) (o_trades : Int32) (o_people : Int32) (o_draftTrades : Int32) (o_draftPeople : Int32) (o_isShut : Int32) (o_falling : Int32) (o_tunes : Nat → Int32) (i1 : Int32) (i2 : Int32) (N : Nat) (r' : Int32) (o_thrown' : Int32) (o_tunes' : Nat → Int32) (hf : fX5_tune N o_thrown o_tunes  i1 i2 = some (r', o_thrown', o_tunes')) : Met l yX5_tune wsX5_tune rmX5_tune (va_Pc [.ref a_o, .int i1, .int i2] (gB (dC, dI) Z [(cC, .char), (cI, .int), (cZ, .boolean), (cW, .object RX3)] [(a_o, .inr (5, [.int o_thrown, .long o_trace, .ref a_o_text, .int o_typed, .int o_next, .int o_token, .int o_place, .int o_value, .int o_fault, .ref a_o_need, .ref a_o_made, .ref a_o_skillTold, .ref a_o_placeTold, .ref a_o_skips, .ref a_o_wheelTold, .int o_trades, .int o_people, .int o_draftTrades, .int o_draftPeople, .int o_isShut, .ref a_o_tunes, .ref a_o_s, .ref a_o_spare, .ref a_o_kept, .ref a_o_isKept, .ref a_o_makes, .ref a_o_works, .ref a_o_order, .int o_falling])), (a_o_tunes, .inl (cI, 3, .inl o_tunes))] sz)) (va_Qi (fun (r : Int32) (_ : Unit) => r = r') (gE (dC, dI) [(a_o, .inr (5, [.int o_thrown', .long o_trace, .ref a_o_text, .int o_typed, .int o_next, .int o_token, .int o_place, .int o_value, .int o_fault, .ref a_o_need, .ref a_o_made, .ref a_o_skillTold, .ref a_o_placeTold, .ref a_o_skips, .ref a_o_wheelTold, .int o_trades, .int o_people, .int o_draftTrades, .int o_draftPeople, .int o_isShut, .ref a_o_tunes, .ref a_o_s, .ref a_o_spare, .ref a_o_kept, .ref a_o_isKept, .ref a_o_makes, .ref a_o_works, .ref a_o_order, .int o_falling])), (a_o_tunes, .inl (cI, 3, .inl o_tunes'))]) (va_A [(a_o, .inr (5, [.int o_thrown, .long o_trace, .ref a_o_text, .int o_typed, .int o_next, .int o_token, .int o_place, .int o_value, .int o_fault, .ref a_o_need, .ref a_o_made, .ref a_o_skillTold, .ref a_o_placeTold, .ref a_o_skips, .ref a_o_wheelTold, .int o_trades, .int o_people, .int o_draftTrades, .int o_draftPeople, .int o_isShut, .ref a_o_tunes, .ref a_o_s, .ref a_o_spare, .ref a_o_kept, .ref a_o_isKept, .ref a_o_makes, .ref a_o_works, .ref a_o_order, .int o_falling])), (a_o_tunes, .inl (cI, 3, .inl o_tunes))] sz)) 0 0 (va_A [(a_o, .inr (5, [.int o_thrown, .long o_trace, .ref a_o_text, .int o_typed, .int o_next, .int o_token, .int o_place, .int o_value, .int o_fault, .ref a_o_need, .ref a_o_made, .ref a_o_skillTold, .ref a_o_placeTold, .ref a_o_skips, .ref a_o_wheelTold, .int o_trades, .int o_people, .int o_draftTrades, .int o_draftPeople, .int o_isShut, .ref a_o_tunes, .ref a_o_s, .ref a_o_spare, .ref a_o_kept, .ref a_o_isKept, .ref a_o_makes, .ref a_o_works, .ref a_o_order, .int o_falling])), (a_o_tunes, .inl (cI, 3, .inl o_tunes))] sz) := by
  refine gMet (cc := cX5_tune) (maxL := 4) (ret := (some .int)) (Qc := fun A => va_Qi (fun (r : Int32) (_ : Unit) => r = r') (gE (dC, dI) [(a_o, .inr (5, [.int o_thrown', .long o_trace, .ref a_o_text, .int o_typed, .int o_next, .int o_token, .int o_place, .int o_value, .int o_fault, .ref a_o_need, .ref a_o_made, .ref a_o_skillTold, .ref a_o_placeTold, .ref a_o_skips, .ref a_o_wheelTold, .int o_trades, .int o_people, .int o_draftTrades, .int o_draftPeople, .int o_isShut, .ref a_o_tunes, .ref a_o_s, .ref a_o_spare, .ref a_o_kept, .ref a_o_isKept, .ref a_o_makes, .ref a_o_works, .ref a_o_order, .int o_falling])), (a_o_tunes, .inl (cI, 3, .inl o_tunes'))]) A) (by decide) rfl (Nat.le_of_ble_eq_true rfl) ?_
  intro p e s m below meth c A ls hg0 _ hsz hP hD hS hl
  have hg0 : gX p s m _ meth c cX5_tune 4 (some .int) wsX5_tune RX5 (dC, dI) Z [(cC, .char), (cI, .int), (cZ, .boolean), (cW, .object RX3)] A := hg0
  obtain ⟨hx, hb, hr, hml, hown, hts, hlocks, hA, hK, hN⟩ := id hg0
  subst hsz
  have hF : CallFix p m c cX5_tune 4 s _ wsX5_tune RX5 := ⟨hx, hb, hml, hown, hts⟩
  have hl : lv_has ls 4 [(0, .ref a_o), (1, .int i1), (2, .int i2)] := hl
  unfold fX5_tune at hf
  refine lv_aload_n hx hb dX5_tune_0 rfl (lv_at hl 0 rfl) ?_
  refine lv_iconst (v := (0 : Int32)) hx hb dX5_tune_1 (by decide) ?_
  refine va_put (D := (dC, dI)) (ci := 5) (v := .int (0 : Int32)) (ty := .int) (C := RX5) (T := TX5) (N := 29) hx hb hts uX5_tune_X5 tyX5 tyX5_ok nmX5 hown hK hP hD hS 0 rfl rfl 0 (by decide) (hts _ mX5_tune_0) (fun _ h9 => h9) rfl (by decide +kernel) rfl rfl (Nat.le_of_ble_eq_true rfl) dX5_tune_2 (fun H locs hP hD hS => ?_)
  have hP : va_P (dC, dI) vwCl [(a_o, .inr (5, [.int (0 : Int32), .long o_trace, .ref a_o_text, .int o_typed, .int o_next, .int o_token, .int o_place, .int o_value, .int o_fault, .ref a_o_need, .ref a_o_made, .ref a_o_skillTold, .ref a_o_placeTold, .ref a_o_skips, .ref a_o_wheelTold, .int o_trades, .int o_people, .int o_draftTrades, .int o_draftPeople, .int o_isShut, .ref a_o_tunes, .ref a_o_s, .ref a_o_spare, .ref a_o_kept, .ref a_o_isKept, .ref a_o_makes, .ref a_o_works, .ref a_o_order, .int o_falling])), (a_o_tunes, .inl (cI, 3, .inl o_tunes))] H := hP
  have hD : va_D A [(a_o, .inr (5, [.int (0 : Int32), .long o_trace, .ref a_o_text, .int o_typed, .int o_next, .int o_token, .int o_place, .int o_value, .int o_fault, .ref a_o_need, .ref a_o_made, .ref a_o_skillTold, .ref a_o_placeTold, .ref a_o_skips, .ref a_o_wheelTold, .int o_trades, .int o_people, .int o_draftTrades, .int o_draftPeople, .int o_isShut, .ref a_o_tunes, .ref a_o_s, .ref a_o_spare, .ref a_o_kept, .ref a_o_isKept, .ref a_o_makes, .ref a_o_works, .ref a_o_order, .int o_falling])), (a_o_tunes, .inl (cI, 3, .inl o_tunes))] := hD
  refine lv_iload_n hx hb dX5_tune_5 rfl (lv_at hl 1 rfl) ?_
  refine lv_iconst (v := (0 : Int32)) hx hb dX5_tune_6 (by decide) ?_
  refine lv_iconst (v := (2 : Int32)) hx hb dX5_tune_7 (by decide) ?_
  obtain ⟨r_1, hc, hf⟩ := pb1 hf
  refine gCi (va_runS (As := [.int i1, .int (0 : Int32), .int (2 : Int32)]) (rest := []) hF (kX5_in l dC dI Z cC cI cZ cW  _  i1 (0 : Int32) (2 : Int32) N r_1 hc) (cwS 3 hts gX5_tune_X5_in rfl rfl rfl (by decide +kernel) ⟨Nat.le_of_ble_eq_true rfl, Nat.le_of_ble_eq_true rfl⟩) (gPS (wc := []) hK hN hA hS hP hD [] rfl rfl) rfl rfl hl.1 rfl (lv_room (Nat.le_of_ble_eq_true rfl)) dX5_tune_8 ⟨Nat.zero_le _, Nat.zero_le _⟩) hP hD hS hA [] rfl rfl rfl (fun H locs hP hD hS => ?_)
  have hP : va_P (dC, dI) vwCl [(a_o, .inr (5, [.int (0 : Int32), .long o_trace, .ref a_o_text, .int o_typed, .int o_next, .int o_token, .int o_place, .int o_value, .int o_fault, .ref a_o_need, .ref a_o_made, .ref a_o_skillTold, .ref a_o_placeTold, .ref a_o_skips, .ref a_o_wheelTold, .int o_trades, .int o_people, .int o_draftTrades, .int o_draftPeople, .int o_isShut, .ref a_o_tunes, .ref a_o_s, .ref a_o_spare, .ref a_o_kept, .ref a_o_isKept, .ref a_o_makes, .ref a_o_works, .ref a_o_order, .int o_falling])), (a_o_tunes, .inl (cI, 3, .inl o_tunes))] H := hP
  have hD : va_D A [(a_o, .inr (5, [.int (0 : Int32), .long o_trace, .ref a_o_text, .int o_typed, .int o_next, .int o_token, .int o_place, .int o_value, .int o_fault, .ref a_o_need, .ref a_o_made, .ref a_o_skillTold, .ref a_o_placeTold, .ref a_o_skips, .ref a_o_wheelTold, .int o_trades, .int o_people, .int o_draftTrades, .int o_draftPeople, .int o_isShut, .ref a_o_tunes, .ref a_o_s, .ref a_o_spare, .ref a_o_kept, .ref a_o_isKept, .ref a_o_makes, .ref a_o_works, .ref a_o_order, .int o_falling])), (a_o_tunes, .inl (cI, 3, .inl o_tunes))] := hD
  refine lv_if_eq (tgt := 52) hx hb dX5_tune_11 (by decide) (fun c_2 => ?_) (fun c_2 => ?_)
  · have hf := pit hf c_2
    refine lv_iconst (v := (-1 : Int32)) hx hb dX5_tune_52 (by decide) ?_
    have q0 := Option.some.inj hf
    obtain ⟨e0, q1⟩ := Prod.mk.inj q0
    obtain ⟨e1, q2⟩ := Prod.mk.inj q1
    subst e0
    subst e1
    subst q2
    exact gRi hx hb hr hlocks hP hS dX5_tune_53
  · have hf := pif hf c_2
    refine lv_iload_n hx hb dX5_tune_14 rfl (lv_at hl 2 rfl) ?_
    refine lv_iload_n hx hb dX5_tune_15 rfl (lv_at hl 1 rfl) ?_
    refine lv_iconst (v := (2 : Int32)) hx hb dX5_tune_16 (by decide) ?_
    refine lv_icmp_ne (tgt := 24) hx hb dX5_tune_17 (by decide) (fun c_3 => ?_) (fun c_3 => ?_)
    · have hf := pif hf c_3
      refine lv_iconst (v := (0 : Int32)) hx hb dX5_tune_24 (by decide) ?_
      refine lv_iload_n hx hb dX5_tune_25 rfl (lv_at hl 1 rfl) ?_
      refine lv_if_ne (tgt := 34) hx hb dX5_tune_26 (by decide) (fun c_4 => ?_) (fun c_4 => ?_)
      · have hf := pif hf c_4
        refine lv_iload_n hx hb dX5_tune_34 rfl (lv_at hl 1 rfl) ?_
        refine lv_iconst (v := (1 : Int32)) hx hb dX5_tune_35 (by decide) ?_
        refine lv_icmp_ne (tgt := 44) hx hb dX5_tune_36 (by decide) (fun c_5 => ?_) (fun c_5 => ?_)
        · have hf := pif hf c_5
          refine lv_bipush (v := (99 : Int32)) hx hb dX5_tune_44 (by decide) ?_
          obtain ⟨r_6, hc, hf⟩ := pb1 hf
          refine gCi (va_runS (As := [.int i2, .int (0 : Int32), .int (99 : Int32)]) (rest := []) hF (kX5_in l dC dI Z cC cI cZ cW  _  i2 (0 : Int32) (99 : Int32) N r_6 hc) (cwS 3 hts gX5_tune_X5_in rfl rfl rfl (by decide +kernel) ⟨Nat.le_of_ble_eq_true rfl, Nat.le_of_ble_eq_true rfl⟩) (gPS (wc := []) hK hN hA hS hP hD [] rfl rfl) rfl rfl hl.1 rfl (lv_room (Nat.le_of_ble_eq_true rfl)) dX5_tune_46 ⟨Nat.zero_le _, Nat.zero_le _⟩) hP hD hS hA [] rfl rfl rfl (fun H locs hP hD hS => ?_)
          have hP : va_P (dC, dI) vwCl [(a_o, .inr (5, [.int (0 : Int32), .long o_trace, .ref a_o_text, .int o_typed, .int o_next, .int o_token, .int o_place, .int o_value, .int o_fault, .ref a_o_need, .ref a_o_made, .ref a_o_skillTold, .ref a_o_placeTold, .ref a_o_skips, .ref a_o_wheelTold, .int o_trades, .int o_people, .int o_draftTrades, .int o_draftPeople, .int o_isShut, .ref a_o_tunes, .ref a_o_s, .ref a_o_spare, .ref a_o_kept, .ref a_o_isKept, .ref a_o_makes, .ref a_o_works, .ref a_o_order, .int o_falling])), (a_o_tunes, .inl (cI, 3, .inl o_tunes))] H := hP
          have hD : va_D A [(a_o, .inr (5, [.int (0 : Int32), .long o_trace, .ref a_o_text, .int o_typed, .int o_next, .int o_token, .int o_place, .int o_value, .int o_fault, .ref a_o_need, .ref a_o_made, .ref a_o_skillTold, .ref a_o_placeTold, .ref a_o_skips, .ref a_o_wheelTold, .int o_trades, .int o_people, .int o_draftTrades, .int o_draftPeople, .int o_isShut, .ref a_o_tunes, .ref a_o_s, .ref a_o_spare, .ref a_o_kept, .ref a_o_isKept, .ref a_o_makes, .ref a_o_works, .ref a_o_order, .int o_falling])), (a_o_tunes, .inl (cI, 3, .inl o_tunes))] := hD
          refine lv_if_ne (tgt := 54) hx hb dX5_tune_49 (by decide) (fun c_7 => ?_) (fun c_7 => ?_)
          · have hf := pif hf c_7
            refine lv_aload_n hx hb dX5_tune_54 rfl (lv_at hl 0 rfl) ?_
            refine va_get (D := (dC, dI)) (ci := 5) (v := .ref a_o_tunes) (C := RX5) (T := TX5) (N := 29) hx hb hts uX5_tune_X5 hown hK hP 0 rfl rfl 20 (by decide) (hts _ mX5_tune_1) (fun _ h9 => h9) rfl dX5_tune_55 ?_
            refine lv_iload_n hx hb dX5_tune_58 rfl (lv_at hl 1 rfl) ?_
            obtain ⟨h_8, hf⟩ := pgd hf
            refine va_iald hx hb hK hP 1 1 rfl rfl h_8 dX5_tune_59 ?_
            refine lv_istore_n (lv' := [(3, .int (o_tunes i1.toNatClampNeg)), (0, .ref a_o), (1, .int i1), (2, .int i2)]) hx hb dX5_tune_60 rfl hl (by decide) rfl (fun ls hl => ?_)
            refine lv_aload_n hx hb dX5_tune_61 rfl (lv_at hl 1 rfl) ?_
            refine va_get (D := (dC, dI)) (ci := 5) (v := .ref a_o_tunes) (C := RX5) (T := TX5) (N := 29) hx hb hts uX5_tune_X5 hown hK hP 0 rfl rfl 20 (by decide) (hts _ mX5_tune_1) (fun _ h9 => h9) rfl dX5_tune_62 ?_
            refine lv_iload_n hx hb dX5_tune_65 rfl (lv_at hl 2 rfl) ?_
            refine lv_iload_n hx hb dX5_tune_66 rfl (lv_at hl 3 rfl) ?_
            obtain ⟨h_9, hf⟩ := pgd hf
            refine va_iast hx hb hK hP hD hS 1 1 rfl rfl h_9 dX5_tune_67 (fun H locs hP hD hS => ?_)
            have hP : va_P (dC, dI) vwCl [(a_o, .inr (5, [.int (0 : Int32), .long o_trace, .ref a_o_text, .int o_typed, .int o_next, .int o_token, .int o_place, .int o_value, .int o_fault, .ref a_o_need, .ref a_o_made, .ref a_o_skillTold, .ref a_o_placeTold, .ref a_o_skips, .ref a_o_wheelTold, .int o_trades, .int o_people, .int o_draftTrades, .int o_draftPeople, .int o_isShut, .ref a_o_tunes, .ref a_o_s, .ref a_o_spare, .ref a_o_kept, .ref a_o_isKept, .ref a_o_makes, .ref a_o_works, .ref a_o_order, .int o_falling])), (a_o_tunes, .inl (cI, 3, .inl (upd o_tunes i1.toNatClampNeg i2)))] H := hP
            have hD : va_D A [(a_o, .inr (5, [.int (0 : Int32), .long o_trace, .ref a_o_text, .int o_typed, .int o_next, .int o_token, .int o_place, .int o_value, .int o_fault, .ref a_o_need, .ref a_o_made, .ref a_o_skillTold, .ref a_o_placeTold, .ref a_o_skips, .ref a_o_wheelTold, .int o_trades, .int o_people, .int o_draftTrades, .int o_draftPeople, .int o_isShut, .ref a_o_tunes, .ref a_o_s, .ref a_o_spare, .ref a_o_kept, .ref a_o_isKept, .ref a_o_makes, .ref a_o_works, .ref a_o_order, .int o_falling])), (a_o_tunes, .inl (cI, 3, .inl (upd o_tunes i1.toNatClampNeg i2)))] := hD
            refine lv_iload_n hx hb dX5_tune_68 rfl (lv_at hl 0 rfl) ?_
            have q0 := Option.some.inj hf
            obtain ⟨e0, q1⟩ := Prod.mk.inj q0
            obtain ⟨e1, q2⟩ := Prod.mk.inj q1
            subst e0
            subst e1
            subst q2
            exact gRi hx hb hr hlocks hP hS dX5_tune_69
          · have hf := pit hf c_7
            refine lv_iconst (v := (-1 : Int32)) hx hb dX5_tune_52 (by decide) ?_
            have q0 := Option.some.inj hf
            obtain ⟨e0, q1⟩ := Prod.mk.inj q0
            obtain ⟨e1, q2⟩ := Prod.mk.inj q1
            subst e0
            subst e1
            subst q2
            exact gRi hx hb hr hlocks hP hS dX5_tune_53
        · have hf := pit hf c_5
          refine lv_bipush (v := (20 : Int32)) hx hb dX5_tune_39 (by decide) ?_
          refine lv_goto (tgt := 46) hx hb dX5_tune_41 (by decide) ?_
          obtain ⟨r_10, hc, hf⟩ := pb1 hf
          refine gCi (va_runS (As := [.int i2, .int (0 : Int32), .int (20 : Int32)]) (rest := []) hF (kX5_in l dC dI Z cC cI cZ cW  _  i2 (0 : Int32) (20 : Int32) N r_10 hc) (cwS 3 hts gX5_tune_X5_in rfl rfl rfl (by decide +kernel) ⟨Nat.le_of_ble_eq_true rfl, Nat.le_of_ble_eq_true rfl⟩) (gPS (wc := []) hK hN hA hS hP hD [] rfl rfl) rfl rfl hl.1 rfl (lv_room (Nat.le_of_ble_eq_true rfl)) dX5_tune_46 ⟨Nat.zero_le _, Nat.zero_le _⟩) hP hD hS hA [] rfl rfl rfl (fun H locs hP hD hS => ?_)
          have hP : va_P (dC, dI) vwCl [(a_o, .inr (5, [.int (0 : Int32), .long o_trace, .ref a_o_text, .int o_typed, .int o_next, .int o_token, .int o_place, .int o_value, .int o_fault, .ref a_o_need, .ref a_o_made, .ref a_o_skillTold, .ref a_o_placeTold, .ref a_o_skips, .ref a_o_wheelTold, .int o_trades, .int o_people, .int o_draftTrades, .int o_draftPeople, .int o_isShut, .ref a_o_tunes, .ref a_o_s, .ref a_o_spare, .ref a_o_kept, .ref a_o_isKept, .ref a_o_makes, .ref a_o_works, .ref a_o_order, .int o_falling])), (a_o_tunes, .inl (cI, 3, .inl o_tunes))] H := hP
          have hD : va_D A [(a_o, .inr (5, [.int (0 : Int32), .long o_trace, .ref a_o_text, .int o_typed, .int o_next, .int o_token, .int o_place, .int o_value, .int o_fault, .ref a_o_need, .ref a_o_made, .ref a_o_skillTold, .ref a_o_placeTold, .ref a_o_skips, .ref a_o_wheelTold, .int o_trades, .int o_people, .int o_draftTrades, .int o_draftPeople, .int o_isShut, .ref a_o_tunes, .ref a_o_s, .ref a_o_spare, .ref a_o_kept, .ref a_o_isKept, .ref a_o_makes, .ref a_o_works, .ref a_o_order, .int o_falling])), (a_o_tunes, .inl (cI, 3, .inl o_tunes))] := hD
          refine lv_if_ne (tgt := 54) hx hb dX5_tune_49 (by decide) (fun c_11 => ?_) (fun c_11 => ?_)
          · have hf := pif hf c_11
            refine lv_aload_n hx hb dX5_tune_54 rfl (lv_at hl 0 rfl) ?_
            refine va_get (D := (dC, dI)) (ci := 5) (v := .ref a_o_tunes) (C := RX5) (T := TX5) (N := 29) hx hb hts uX5_tune_X5 hown hK hP 0 rfl rfl 20 (by decide) (hts _ mX5_tune_1) (fun _ h9 => h9) rfl dX5_tune_55 ?_
            refine lv_iload_n hx hb dX5_tune_58 rfl (lv_at hl 1 rfl) ?_
            obtain ⟨h_12, hf⟩ := pgd hf
            refine va_iald hx hb hK hP 1 1 rfl rfl h_12 dX5_tune_59 ?_
            refine lv_istore_n (lv' := [(3, .int (o_tunes i1.toNatClampNeg)), (0, .ref a_o), (1, .int i1), (2, .int i2)]) hx hb dX5_tune_60 rfl hl (by decide) rfl (fun ls hl => ?_)
            refine lv_aload_n hx hb dX5_tune_61 rfl (lv_at hl 1 rfl) ?_
            refine va_get (D := (dC, dI)) (ci := 5) (v := .ref a_o_tunes) (C := RX5) (T := TX5) (N := 29) hx hb hts uX5_tune_X5 hown hK hP 0 rfl rfl 20 (by decide) (hts _ mX5_tune_1) (fun _ h9 => h9) rfl dX5_tune_62 ?_
            refine lv_iload_n hx hb dX5_tune_65 rfl (lv_at hl 2 rfl) ?_
            refine lv_iload_n hx hb dX5_tune_66 rfl (lv_at hl 3 rfl) ?_
            obtain ⟨h_13, hf⟩ := pgd hf
            refine va_iast hx hb hK hP hD hS 1 1 rfl rfl h_13 dX5_tune_67 (fun H locs hP hD hS => ?_)
            have hP : va_P (dC, dI) vwCl [(a_o, .inr (5, [.int (0 : Int32), .long o_trace, .ref a_o_text, .int o_typed, .int o_next, .int o_token, .int o_place, .int o_value, .int o_fault, .ref a_o_need, .ref a_o_made, .ref a_o_skillTold, .ref a_o_placeTold, .ref a_o_skips, .ref a_o_wheelTold, .int o_trades, .int o_people, .int o_draftTrades, .int o_draftPeople, .int o_isShut, .ref a_o_tunes, .ref a_o_s, .ref a_o_spare, .ref a_o_kept, .ref a_o_isKept, .ref a_o_makes, .ref a_o_works, .ref a_o_order, .int o_falling])), (a_o_tunes, .inl (cI, 3, .inl (upd o_tunes i1.toNatClampNeg i2)))] H := hP
            have hD : va_D A [(a_o, .inr (5, [.int (0 : Int32), .long o_trace, .ref a_o_text, .int o_typed, .int o_next, .int o_token, .int o_place, .int o_value, .int o_fault, .ref a_o_need, .ref a_o_made, .ref a_o_skillTold, .ref a_o_placeTold, .ref a_o_skips, .ref a_o_wheelTold, .int o_trades, .int o_people, .int o_draftTrades, .int o_draftPeople, .int o_isShut, .ref a_o_tunes, .ref a_o_s, .ref a_o_spare, .ref a_o_kept, .ref a_o_isKept, .ref a_o_makes, .ref a_o_works, .ref a_o_order, .int o_falling])), (a_o_tunes, .inl (cI, 3, .inl (upd o_tunes i1.toNatClampNeg i2)))] := hD
            refine lv_iload_n hx hb dX5_tune_68 rfl (lv_at hl 0 rfl) ?_
            have q0 := Option.some.inj hf
            obtain ⟨e0, q1⟩ := Prod.mk.inj q0
            obtain ⟨e1, q2⟩ := Prod.mk.inj q1
            subst e0
            subst e1
            subst q2
            exact gRi hx hb hr hlocks hP hS dX5_tune_69
          · have hf := pit hf c_11
            refine lv_iconst (v := (-1 : Int32)) hx hb dX5_tune_52 (by decide) ?_
            have q0 := Option.some.inj hf
            obtain ⟨e0, q1⟩ := Prod.mk.inj q0
            obtain ⟨e1, q2⟩ := Prod.mk.inj q1
            subst e0
            subst e1
            subst q2
            exact gRi hx hb hr hlocks hP hS dX5_tune_53
      · have hf := pit hf c_4
        refine lv_bipush (v := (9 : Int32)) hx hb dX5_tune_29 (by decide) ?_
        refine lv_goto (tgt := 46) hx hb dX5_tune_31 (by decide) ?_
        obtain ⟨r_14, hc, hf⟩ := pb1 hf
        refine gCi (va_runS (As := [.int i2, .int (0 : Int32), .int (9 : Int32)]) (rest := []) hF (kX5_in l dC dI Z cC cI cZ cW  _  i2 (0 : Int32) (9 : Int32) N r_14 hc) (cwS 3 hts gX5_tune_X5_in rfl rfl rfl (by decide +kernel) ⟨Nat.le_of_ble_eq_true rfl, Nat.le_of_ble_eq_true rfl⟩) (gPS (wc := []) hK hN hA hS hP hD [] rfl rfl) rfl rfl hl.1 rfl (lv_room (Nat.le_of_ble_eq_true rfl)) dX5_tune_46 ⟨Nat.zero_le _, Nat.zero_le _⟩) hP hD hS hA [] rfl rfl rfl (fun H locs hP hD hS => ?_)
        have hP : va_P (dC, dI) vwCl [(a_o, .inr (5, [.int (0 : Int32), .long o_trace, .ref a_o_text, .int o_typed, .int o_next, .int o_token, .int o_place, .int o_value, .int o_fault, .ref a_o_need, .ref a_o_made, .ref a_o_skillTold, .ref a_o_placeTold, .ref a_o_skips, .ref a_o_wheelTold, .int o_trades, .int o_people, .int o_draftTrades, .int o_draftPeople, .int o_isShut, .ref a_o_tunes, .ref a_o_s, .ref a_o_spare, .ref a_o_kept, .ref a_o_isKept, .ref a_o_makes, .ref a_o_works, .ref a_o_order, .int o_falling])), (a_o_tunes, .inl (cI, 3, .inl o_tunes))] H := hP
        have hD : va_D A [(a_o, .inr (5, [.int (0 : Int32), .long o_trace, .ref a_o_text, .int o_typed, .int o_next, .int o_token, .int o_place, .int o_value, .int o_fault, .ref a_o_need, .ref a_o_made, .ref a_o_skillTold, .ref a_o_placeTold, .ref a_o_skips, .ref a_o_wheelTold, .int o_trades, .int o_people, .int o_draftTrades, .int o_draftPeople, .int o_isShut, .ref a_o_tunes, .ref a_o_s, .ref a_o_spare, .ref a_o_kept, .ref a_o_isKept, .ref a_o_makes, .ref a_o_works, .ref a_o_order, .int o_falling])), (a_o_tunes, .inl (cI, 3, .inl o_tunes))] := hD
        refine lv_if_ne (tgt := 54) hx hb dX5_tune_49 (by decide) (fun c_15 => ?_) (fun c_15 => ?_)
        · have hf := pif hf c_15
          refine lv_aload_n hx hb dX5_tune_54 rfl (lv_at hl 0 rfl) ?_
          refine va_get (D := (dC, dI)) (ci := 5) (v := .ref a_o_tunes) (C := RX5) (T := TX5) (N := 29) hx hb hts uX5_tune_X5 hown hK hP 0 rfl rfl 20 (by decide) (hts _ mX5_tune_1) (fun _ h9 => h9) rfl dX5_tune_55 ?_
          refine lv_iload_n hx hb dX5_tune_58 rfl (lv_at hl 1 rfl) ?_
          obtain ⟨h_16, hf⟩ := pgd hf
          refine va_iald hx hb hK hP 1 1 rfl rfl h_16 dX5_tune_59 ?_
          refine lv_istore_n (lv' := [(3, .int (o_tunes i1.toNatClampNeg)), (0, .ref a_o), (1, .int i1), (2, .int i2)]) hx hb dX5_tune_60 rfl hl (by decide) rfl (fun ls hl => ?_)
          refine lv_aload_n hx hb dX5_tune_61 rfl (lv_at hl 1 rfl) ?_
          refine va_get (D := (dC, dI)) (ci := 5) (v := .ref a_o_tunes) (C := RX5) (T := TX5) (N := 29) hx hb hts uX5_tune_X5 hown hK hP 0 rfl rfl 20 (by decide) (hts _ mX5_tune_1) (fun _ h9 => h9) rfl dX5_tune_62 ?_
          refine lv_iload_n hx hb dX5_tune_65 rfl (lv_at hl 2 rfl) ?_
          refine lv_iload_n hx hb dX5_tune_66 rfl (lv_at hl 3 rfl) ?_
          obtain ⟨h_17, hf⟩ := pgd hf
          refine va_iast hx hb hK hP hD hS 1 1 rfl rfl h_17 dX5_tune_67 (fun H locs hP hD hS => ?_)
          have hP : va_P (dC, dI) vwCl [(a_o, .inr (5, [.int (0 : Int32), .long o_trace, .ref a_o_text, .int o_typed, .int o_next, .int o_token, .int o_place, .int o_value, .int o_fault, .ref a_o_need, .ref a_o_made, .ref a_o_skillTold, .ref a_o_placeTold, .ref a_o_skips, .ref a_o_wheelTold, .int o_trades, .int o_people, .int o_draftTrades, .int o_draftPeople, .int o_isShut, .ref a_o_tunes, .ref a_o_s, .ref a_o_spare, .ref a_o_kept, .ref a_o_isKept, .ref a_o_makes, .ref a_o_works, .ref a_o_order, .int o_falling])), (a_o_tunes, .inl (cI, 3, .inl (upd o_tunes i1.toNatClampNeg i2)))] H := hP
          have hD : va_D A [(a_o, .inr (5, [.int (0 : Int32), .long o_trace, .ref a_o_text, .int o_typed, .int o_next, .int o_token, .int o_place, .int o_value, .int o_fault, .ref a_o_need, .ref a_o_made, .ref a_o_skillTold, .ref a_o_placeTold, .ref a_o_skips, .ref a_o_wheelTold, .int o_trades, .int o_people, .int o_draftTrades, .int o_draftPeople, .int o_isShut, .ref a_o_tunes, .ref a_o_s, .ref a_o_spare, .ref a_o_kept, .ref a_o_isKept, .ref a_o_makes, .ref a_o_works, .ref a_o_order, .int o_falling])), (a_o_tunes, .inl (cI, 3, .inl (upd o_tunes i1.toNatClampNeg i2)))] := hD
          refine lv_iload_n hx hb dX5_tune_68 rfl (lv_at hl 0 rfl) ?_
          have q0 := Option.some.inj hf
          obtain ⟨e0, q1⟩ := Prod.mk.inj q0
          obtain ⟨e1, q2⟩ := Prod.mk.inj q1
          subst e0
          subst e1
          subst q2
          exact gRi hx hb hr hlocks hP hS dX5_tune_69
        · have hf := pit hf c_15
          refine lv_iconst (v := (-1 : Int32)) hx hb dX5_tune_52 (by decide) ?_
          have q0 := Option.some.inj hf
          obtain ⟨e0, q1⟩ := Prod.mk.inj q0
          obtain ⟨e1, q2⟩ := Prod.mk.inj q1
          subst e0
          subst e1
          subst q2
          exact gRi hx hb hr hlocks hP hS dX5_tune_53
    · have hf := pit hf c_3
      refine lv_iconst (v := (1 : Int32)) hx hb dX5_tune_20 (by decide) ?_
      refine lv_goto (tgt := 25) hx hb dX5_tune_21 (by decide) ?_
      refine lv_iload_n hx hb dX5_tune_25 rfl (lv_at hl 1 rfl) ?_
      refine lv_if_ne (tgt := 34) hx hb dX5_tune_26 (by decide) (fun c_18 => ?_) (fun c_18 => ?_)
      · have hf := pif hf c_18
        refine lv_iload_n hx hb dX5_tune_34 rfl (lv_at hl 1 rfl) ?_
        refine lv_iconst (v := (1 : Int32)) hx hb dX5_tune_35 (by decide) ?_
        refine lv_icmp_ne (tgt := 44) hx hb dX5_tune_36 (by decide) (fun c_19 => ?_) (fun c_19 => ?_)
        · have hf := pif hf c_19
          refine lv_bipush (v := (99 : Int32)) hx hb dX5_tune_44 (by decide) ?_
          obtain ⟨r_20, hc, hf⟩ := pb1 hf
          refine gCi (va_runS (As := [.int i2, .int (1 : Int32), .int (99 : Int32)]) (rest := []) hF (kX5_in l dC dI Z cC cI cZ cW  _  i2 (1 : Int32) (99 : Int32) N r_20 hc) (cwS 3 hts gX5_tune_X5_in rfl rfl rfl (by decide +kernel) ⟨Nat.le_of_ble_eq_true rfl, Nat.le_of_ble_eq_true rfl⟩) (gPS (wc := []) hK hN hA hS hP hD [] rfl rfl) rfl rfl hl.1 rfl (lv_room (Nat.le_of_ble_eq_true rfl)) dX5_tune_46 ⟨Nat.zero_le _, Nat.zero_le _⟩) hP hD hS hA [] rfl rfl rfl (fun H locs hP hD hS => ?_)
          have hP : va_P (dC, dI) vwCl [(a_o, .inr (5, [.int (0 : Int32), .long o_trace, .ref a_o_text, .int o_typed, .int o_next, .int o_token, .int o_place, .int o_value, .int o_fault, .ref a_o_need, .ref a_o_made, .ref a_o_skillTold, .ref a_o_placeTold, .ref a_o_skips, .ref a_o_wheelTold, .int o_trades, .int o_people, .int o_draftTrades, .int o_draftPeople, .int o_isShut, .ref a_o_tunes, .ref a_o_s, .ref a_o_spare, .ref a_o_kept, .ref a_o_isKept, .ref a_o_makes, .ref a_o_works, .ref a_o_order, .int o_falling])), (a_o_tunes, .inl (cI, 3, .inl o_tunes))] H := hP
          have hD : va_D A [(a_o, .inr (5, [.int (0 : Int32), .long o_trace, .ref a_o_text, .int o_typed, .int o_next, .int o_token, .int o_place, .int o_value, .int o_fault, .ref a_o_need, .ref a_o_made, .ref a_o_skillTold, .ref a_o_placeTold, .ref a_o_skips, .ref a_o_wheelTold, .int o_trades, .int o_people, .int o_draftTrades, .int o_draftPeople, .int o_isShut, .ref a_o_tunes, .ref a_o_s, .ref a_o_spare, .ref a_o_kept, .ref a_o_isKept, .ref a_o_makes, .ref a_o_works, .ref a_o_order, .int o_falling])), (a_o_tunes, .inl (cI, 3, .inl o_tunes))] := hD
          refine lv_if_ne (tgt := 54) hx hb dX5_tune_49 (by decide) (fun c_21 => ?_) (fun c_21 => ?_)
          · have hf := pif hf c_21
            refine lv_aload_n hx hb dX5_tune_54 rfl (lv_at hl 0 rfl) ?_
            refine va_get (D := (dC, dI)) (ci := 5) (v := .ref a_o_tunes) (C := RX5) (T := TX5) (N := 29) hx hb hts uX5_tune_X5 hown hK hP 0 rfl rfl 20 (by decide) (hts _ mX5_tune_1) (fun _ h9 => h9) rfl dX5_tune_55 ?_
            refine lv_iload_n hx hb dX5_tune_58 rfl (lv_at hl 1 rfl) ?_
            obtain ⟨h_22, hf⟩ := pgd hf
            refine va_iald hx hb hK hP 1 1 rfl rfl h_22 dX5_tune_59 ?_
            refine lv_istore_n (lv' := [(3, .int (o_tunes i1.toNatClampNeg)), (0, .ref a_o), (1, .int i1), (2, .int i2)]) hx hb dX5_tune_60 rfl hl (by decide) rfl (fun ls hl => ?_)
            refine lv_aload_n hx hb dX5_tune_61 rfl (lv_at hl 1 rfl) ?_
            refine va_get (D := (dC, dI)) (ci := 5) (v := .ref a_o_tunes) (C := RX5) (T := TX5) (N := 29) hx hb hts uX5_tune_X5 hown hK hP 0 rfl rfl 20 (by decide) (hts _ mX5_tune_1) (fun _ h9 => h9) rfl dX5_tune_62 ?_
            refine lv_iload_n hx hb dX5_tune_65 rfl (lv_at hl 2 rfl) ?_
            refine lv_iload_n hx hb dX5_tune_66 rfl (lv_at hl 3 rfl) ?_
            obtain ⟨h_23, hf⟩ := pgd hf
            refine va_iast hx hb hK hP hD hS 1 1 rfl rfl h_23 dX5_tune_67 (fun H locs hP hD hS => ?_)
            have hP : va_P (dC, dI) vwCl [(a_o, .inr (5, [.int (0 : Int32), .long o_trace, .ref a_o_text, .int o_typed, .int o_next, .int o_token, .int o_place, .int o_value, .int o_fault, .ref a_o_need, .ref a_o_made, .ref a_o_skillTold, .ref a_o_placeTold, .ref a_o_skips, .ref a_o_wheelTold, .int o_trades, .int o_people, .int o_draftTrades, .int o_draftPeople, .int o_isShut, .ref a_o_tunes, .ref a_o_s, .ref a_o_spare, .ref a_o_kept, .ref a_o_isKept, .ref a_o_makes, .ref a_o_works, .ref a_o_order, .int o_falling])), (a_o_tunes, .inl (cI, 3, .inl (upd o_tunes i1.toNatClampNeg i2)))] H := hP
            have hD : va_D A [(a_o, .inr (5, [.int (0 : Int32), .long o_trace, .ref a_o_text, .int o_typed, .int o_next, .int o_token, .int o_place, .int o_value, .int o_fault, .ref a_o_need, .ref a_o_made, .ref a_o_skillTold, .ref a_o_placeTold, .ref a_o_skips, .ref a_o_wheelTold, .int o_trades, .int o_people, .int o_draftTrades, .int o_draftPeople, .int o_isShut, .ref a_o_tunes, .ref a_o_s, .ref a_o_spare, .ref a_o_kept, .ref a_o_isKept, .ref a_o_makes, .ref a_o_works, .ref a_o_order, .int o_falling])), (a_o_tunes, .inl (cI, 3, .inl (upd o_tunes i1.toNatClampNeg i2)))] := hD
            refine lv_iload_n hx hb dX5_tune_68 rfl (lv_at hl 0 rfl) ?_
            have q0 := Option.some.inj hf
            obtain ⟨e0, q1⟩ := Prod.mk.inj q0
            obtain ⟨e1, q2⟩ := Prod.mk.inj q1
            subst e0
            subst e1
            subst q2
            exact gRi hx hb hr hlocks hP hS dX5_tune_69
          · have hf := pit hf c_21
            refine lv_iconst (v := (-1 : Int32)) hx hb dX5_tune_52 (by decide) ?_
            have q0 := Option.some.inj hf
            obtain ⟨e0, q1⟩ := Prod.mk.inj q0
            obtain ⟨e1, q2⟩ := Prod.mk.inj q1
            subst e0
            subst e1
            subst q2
            exact gRi hx hb hr hlocks hP hS dX5_tune_53
        · have hf := pit hf c_19
          refine lv_bipush (v := (20 : Int32)) hx hb dX5_tune_39 (by decide) ?_
          refine lv_goto (tgt := 46) hx hb dX5_tune_41 (by decide) ?_
          obtain ⟨r_24, hc, hf⟩ := pb1 hf
          refine gCi (va_runS (As := [.int i2, .int (1 : Int32), .int (20 : Int32)]) (rest := []) hF (kX5_in l dC dI Z cC cI cZ cW  _  i2 (1 : Int32) (20 : Int32) N r_24 hc) (cwS 3 hts gX5_tune_X5_in rfl rfl rfl (by decide +kernel) ⟨Nat.le_of_ble_eq_true rfl, Nat.le_of_ble_eq_true rfl⟩) (gPS (wc := []) hK hN hA hS hP hD [] rfl rfl) rfl rfl hl.1 rfl (lv_room (Nat.le_of_ble_eq_true rfl)) dX5_tune_46 ⟨Nat.zero_le _, Nat.zero_le _⟩) hP hD hS hA [] rfl rfl rfl (fun H locs hP hD hS => ?_)
          have hP : va_P (dC, dI) vwCl [(a_o, .inr (5, [.int (0 : Int32), .long o_trace, .ref a_o_text, .int o_typed, .int o_next, .int o_token, .int o_place, .int o_value, .int o_fault, .ref a_o_need, .ref a_o_made, .ref a_o_skillTold, .ref a_o_placeTold, .ref a_o_skips, .ref a_o_wheelTold, .int o_trades, .int o_people, .int o_draftTrades, .int o_draftPeople, .int o_isShut, .ref a_o_tunes, .ref a_o_s, .ref a_o_spare, .ref a_o_kept, .ref a_o_isKept, .ref a_o_makes, .ref a_o_works, .ref a_o_order, .int o_falling])), (a_o_tunes, .inl (cI, 3, .inl o_tunes))] H := hP
          have hD : va_D A [(a_o, .inr (5, [.int (0 : Int32), .long o_trace, .ref a_o_text, .int o_typed, .int o_next, .int o_token, .int o_place, .int o_value, .int o_fault, .ref a_o_need, .ref a_o_made, .ref a_o_skillTold, .ref a_o_placeTold, .ref a_o_skips, .ref a_o_wheelTold, .int o_trades, .int o_people, .int o_draftTrades, .int o_draftPeople, .int o_isShut, .ref a_o_tunes, .ref a_o_s, .ref a_o_spare, .ref a_o_kept, .ref a_o_isKept, .ref a_o_makes, .ref a_o_works, .ref a_o_order, .int o_falling])), (a_o_tunes, .inl (cI, 3, .inl o_tunes))] := hD
          refine lv_if_ne (tgt := 54) hx hb dX5_tune_49 (by decide) (fun c_25 => ?_) (fun c_25 => ?_)
          · have hf := pif hf c_25
            refine lv_aload_n hx hb dX5_tune_54 rfl (lv_at hl 0 rfl) ?_
            refine va_get (D := (dC, dI)) (ci := 5) (v := .ref a_o_tunes) (C := RX5) (T := TX5) (N := 29) hx hb hts uX5_tune_X5 hown hK hP 0 rfl rfl 20 (by decide) (hts _ mX5_tune_1) (fun _ h9 => h9) rfl dX5_tune_55 ?_
            refine lv_iload_n hx hb dX5_tune_58 rfl (lv_at hl 1 rfl) ?_
            obtain ⟨h_26, hf⟩ := pgd hf
            refine va_iald hx hb hK hP 1 1 rfl rfl h_26 dX5_tune_59 ?_
            refine lv_istore_n (lv' := [(3, .int (o_tunes i1.toNatClampNeg)), (0, .ref a_o), (1, .int i1), (2, .int i2)]) hx hb dX5_tune_60 rfl hl (by decide) rfl (fun ls hl => ?_)
            refine lv_aload_n hx hb dX5_tune_61 rfl (lv_at hl 1 rfl) ?_
            refine va_get (D := (dC, dI)) (ci := 5) (v := .ref a_o_tunes) (C := RX5) (T := TX5) (N := 29) hx hb hts uX5_tune_X5 hown hK hP 0 rfl rfl 20 (by decide) (hts _ mX5_tune_1) (fun _ h9 => h9) rfl dX5_tune_62 ?_
            refine lv_iload_n hx hb dX5_tune_65 rfl (lv_at hl 2 rfl) ?_
            refine lv_iload_n hx hb dX5_tune_66 rfl (lv_at hl 3 rfl) ?_
            obtain ⟨h_27, hf⟩ := pgd hf
            refine va_iast hx hb hK hP hD hS 1 1 rfl rfl h_27 dX5_tune_67 (fun H locs hP hD hS => ?_)
            have hP : va_P (dC, dI) vwCl [(a_o, .inr (5, [.int (0 : Int32), .long o_trace, .ref a_o_text, .int o_typed, .int o_next, .int o_token, .int o_place, .int o_value, .int o_fault, .ref a_o_need, .ref a_o_made, .ref a_o_skillTold, .ref a_o_placeTold, .ref a_o_skips, .ref a_o_wheelTold, .int o_trades, .int o_people, .int o_draftTrades, .int o_draftPeople, .int o_isShut, .ref a_o_tunes, .ref a_o_s, .ref a_o_spare, .ref a_o_kept, .ref a_o_isKept, .ref a_o_makes, .ref a_o_works, .ref a_o_order, .int o_falling])), (a_o_tunes, .inl (cI, 3, .inl (upd o_tunes i1.toNatClampNeg i2)))] H := hP
            have hD : va_D A [(a_o, .inr (5, [.int (0 : Int32), .long o_trace, .ref a_o_text, .int o_typed, .int o_next, .int o_token, .int o_place, .int o_value, .int o_fault, .ref a_o_need, .ref a_o_made, .ref a_o_skillTold, .ref a_o_placeTold, .ref a_o_skips, .ref a_o_wheelTold, .int o_trades, .int o_people, .int o_draftTrades, .int o_draftPeople, .int o_isShut, .ref a_o_tunes, .ref a_o_s, .ref a_o_spare, .ref a_o_kept, .ref a_o_isKept, .ref a_o_makes, .ref a_o_works, .ref a_o_order, .int o_falling])), (a_o_tunes, .inl (cI, 3, .inl (upd o_tunes i1.toNatClampNeg i2)))] := hD
            refine lv_iload_n hx hb dX5_tune_68 rfl (lv_at hl 0 rfl) ?_
            have q0 := Option.some.inj hf
            obtain ⟨e0, q1⟩ := Prod.mk.inj q0
            obtain ⟨e1, q2⟩ := Prod.mk.inj q1
            subst e0
            subst e1
            subst q2
            exact gRi hx hb hr hlocks hP hS dX5_tune_69
          · have hf := pit hf c_25
            refine lv_iconst (v := (-1 : Int32)) hx hb dX5_tune_52 (by decide) ?_
            have q0 := Option.some.inj hf
            obtain ⟨e0, q1⟩ := Prod.mk.inj q0
            obtain ⟨e1, q2⟩ := Prod.mk.inj q1
            subst e0
            subst e1
            subst q2
            exact gRi hx hb hr hlocks hP hS dX5_tune_53
      · have hf := pit hf c_18
        refine lv_bipush (v := (9 : Int32)) hx hb dX5_tune_29 (by decide) ?_
        refine lv_goto (tgt := 46) hx hb dX5_tune_31 (by decide) ?_
        obtain ⟨r_28, hc, hf⟩ := pb1 hf
        refine gCi (va_runS (As := [.int i2, .int (1 : Int32), .int (9 : Int32)]) (rest := []) hF (kX5_in l dC dI Z cC cI cZ cW  _  i2 (1 : Int32) (9 : Int32) N r_28 hc) (cwS 3 hts gX5_tune_X5_in rfl rfl rfl (by decide +kernel) ⟨Nat.le_of_ble_eq_true rfl, Nat.le_of_ble_eq_true rfl⟩) (gPS (wc := []) hK hN hA hS hP hD [] rfl rfl) rfl rfl hl.1 rfl (lv_room (Nat.le_of_ble_eq_true rfl)) dX5_tune_46 ⟨Nat.zero_le _, Nat.zero_le _⟩) hP hD hS hA [] rfl rfl rfl (fun H locs hP hD hS => ?_)
        have hP : va_P (dC, dI) vwCl [(a_o, .inr (5, [.int (0 : Int32), .long o_trace, .ref a_o_text, .int o_typed, .int o_next, .int o_token, .int o_place, .int o_value, .int o_fault, .ref a_o_need, .ref a_o_made, .ref a_o_skillTold, .ref a_o_placeTold, .ref a_o_skips, .ref a_o_wheelTold, .int o_trades, .int o_people, .int o_draftTrades, .int o_draftPeople, .int o_isShut, .ref a_o_tunes, .ref a_o_s, .ref a_o_spare, .ref a_o_kept, .ref a_o_isKept, .ref a_o_makes, .ref a_o_works, .ref a_o_order, .int o_falling])), (a_o_tunes, .inl (cI, 3, .inl o_tunes))] H := hP
        have hD : va_D A [(a_o, .inr (5, [.int (0 : Int32), .long o_trace, .ref a_o_text, .int o_typed, .int o_next, .int o_token, .int o_place, .int o_value, .int o_fault, .ref a_o_need, .ref a_o_made, .ref a_o_skillTold, .ref a_o_placeTold, .ref a_o_skips, .ref a_o_wheelTold, .int o_trades, .int o_people, .int o_draftTrades, .int o_draftPeople, .int o_isShut, .ref a_o_tunes, .ref a_o_s, .ref a_o_spare, .ref a_o_kept, .ref a_o_isKept, .ref a_o_makes, .ref a_o_works, .ref a_o_order, .int o_falling])), (a_o_tunes, .inl (cI, 3, .inl o_tunes))] := hD
        refine lv_if_ne (tgt := 54) hx hb dX5_tune_49 (by decide) (fun c_29 => ?_) (fun c_29 => ?_)
        · have hf := pif hf c_29
          refine lv_aload_n hx hb dX5_tune_54 rfl (lv_at hl 0 rfl) ?_
          refine va_get (D := (dC, dI)) (ci := 5) (v := .ref a_o_tunes) (C := RX5) (T := TX5) (N := 29) hx hb hts uX5_tune_X5 hown hK hP 0 rfl rfl 20 (by decide) (hts _ mX5_tune_1) (fun _ h9 => h9) rfl dX5_tune_55 ?_
          refine lv_iload_n hx hb dX5_tune_58 rfl (lv_at hl 1 rfl) ?_
          obtain ⟨h_30, hf⟩ := pgd hf
          refine va_iald hx hb hK hP 1 1 rfl rfl h_30 dX5_tune_59 ?_
          refine lv_istore_n (lv' := [(3, .int (o_tunes i1.toNatClampNeg)), (0, .ref a_o), (1, .int i1), (2, .int i2)]) hx hb dX5_tune_60 rfl hl (by decide) rfl (fun ls hl => ?_)
          refine lv_aload_n hx hb dX5_tune_61 rfl (lv_at hl 1 rfl) ?_
          refine va_get (D := (dC, dI)) (ci := 5) (v := .ref a_o_tunes) (C := RX5) (T := TX5) (N := 29) hx hb hts uX5_tune_X5 hown hK hP 0 rfl rfl 20 (by decide) (hts _ mX5_tune_1) (fun _ h9 => h9) rfl dX5_tune_62 ?_
          refine lv_iload_n hx hb dX5_tune_65 rfl (lv_at hl 2 rfl) ?_
          refine lv_iload_n hx hb dX5_tune_66 rfl (lv_at hl 3 rfl) ?_
          obtain ⟨h_31, hf⟩ := pgd hf
          refine va_iast hx hb hK hP hD hS 1 1 rfl rfl h_31 dX5_tune_67 (fun H locs hP hD hS => ?_)
          have hP : va_P (dC, dI) vwCl [(a_o, .inr (5, [.int (0 : Int32), .long o_trace, .ref a_o_text, .int o_typed, .int o_next, .int o_token, .int o_place, .int o_value, .int o_fault, .ref a_o_need, .ref a_o_made, .ref a_o_skillTold, .ref a_o_placeTold, .ref a_o_skips, .ref a_o_wheelTold, .int o_trades, .int o_people, .int o_draftTrades, .int o_draftPeople, .int o_isShut, .ref a_o_tunes, .ref a_o_s, .ref a_o_spare, .ref a_o_kept, .ref a_o_isKept, .ref a_o_makes, .ref a_o_works, .ref a_o_order, .int o_falling])), (a_o_tunes, .inl (cI, 3, .inl (upd o_tunes i1.toNatClampNeg i2)))] H := hP
          have hD : va_D A [(a_o, .inr (5, [.int (0 : Int32), .long o_trace, .ref a_o_text, .int o_typed, .int o_next, .int o_token, .int o_place, .int o_value, .int o_fault, .ref a_o_need, .ref a_o_made, .ref a_o_skillTold, .ref a_o_placeTold, .ref a_o_skips, .ref a_o_wheelTold, .int o_trades, .int o_people, .int o_draftTrades, .int o_draftPeople, .int o_isShut, .ref a_o_tunes, .ref a_o_s, .ref a_o_spare, .ref a_o_kept, .ref a_o_isKept, .ref a_o_makes, .ref a_o_works, .ref a_o_order, .int o_falling])), (a_o_tunes, .inl (cI, 3, .inl (upd o_tunes i1.toNatClampNeg i2)))] := hD
          refine lv_iload_n hx hb dX5_tune_68 rfl (lv_at hl 0 rfl) ?_
          have q0 := Option.some.inj hf
          obtain ⟨e0, q1⟩ := Prod.mk.inj q0
          obtain ⟨e1, q2⟩ := Prod.mk.inj q1
          subst e0
          subst e1
          subst q2
          exact gRi hx hb hr hlocks hP hS dX5_tune_69
        · have hf := pit hf c_29
          refine lv_iconst (v := (-1 : Int32)) hx hb dX5_tune_52 (by decide) ?_
          have q0 := Option.some.inj hf
          obtain ⟨e0, q1⟩ := Prod.mk.inj q0
          obtain ⟨e1, q2⟩ := Prod.mk.inj q1
          subst e0
          subst e1
          subst q2
          exact gRi hx hb hr hlocks hP hS dX5_tune_53
abbrev rmX5_helperOf : Room := { frames := 0, cells := 0, slots := 0, locals := 0 }
set_option maxRecDepth 20000 in
theorem uX5_helperOf_X5 : ∀ w ∈ wsX50, w ∈ wsX5_helperOf := by decide +kernel
set_option maxRecDepth 20000 in
theorem mX5_helperOf_0 : (Cond.fieldLink RX5 140 "TradeWheelModel" "people" "I" : Cond) ∈ wsX5_helperOf := by decide +kernel
set_option maxRecDepth 20000 in
theorem mX5_helperOf_1 : (Cond.fieldLink RX5 34 "TradeWheelModel" "s" "[I" : Cond) ∈ wsX5_helperOf := by decide +kernel
set_option maxHeartbeats 4000000 in
set_option maxRecDepth 100000 in
theorem wX5_helperOf_2 {p : Program} {l : Launch} {e : Env} {s : State} {m : MethodId} {args : Array Value} {below : List Frame} {meth : Method} {c : Code} {Q : State → Prop} {A : Nat → Prop} {dC : Nat → ClassId} {dI : Nat → Nat → Nat} {Z : gZ} {cC cI cZ cW : ClassId} (hg0 : gX p s m args meth c cX5_helperOf 3 (some .int) wsX5_helperOf RX5 (dC, dI) Z [(cC, .char), (cI, .int), (cZ, .boolean), (cW, .object RX3)] A) (a_o a_o_text a_o_need a_o_made a_o_skillTold a_o_placeTold a_o_skips a_o_wheelTold a_o_tunes a_o_s a_o_spare a_o_kept a_o_isKept a_o_makes a_o_works a_o_order : Nat) (o_thrown : Int32) (o_trace : Int64) (o_typed : Int32) (o_next : Int32) (o_token : Int32) (o_place : Int32) (o_value : Int32) (o_fault : Int32) (o_trades : Int32) (o_people : Int32) (o_draftTrades : Int32) (o_draftPeople : Int32) (o_isShut : Int32) (o_falling : Int32) (o_s : Nat → Int32) (l1 : Int32) (N : Nat) : ∀ (n : Nat) (l2 : Int32) (ro' : Option Int32) (l2' : Int32), fX5_helperOf_2 N o_people o_s l1 n l2 = some (ro', l2') → ∀ (H : Heap) (locs : List Loc) (ls : Array Slot), va_P (dC, dI) vwCl [(a_o, .inr (5, [.int o_thrown, .long o_trace, .ref a_o_text, .int o_typed, .int o_next, .int o_token, .int o_place, .int o_value, .int o_fault, .ref a_o_need, .ref a_o_made, .ref a_o_skillTold, .ref a_o_placeTold, .ref a_o_skips, .ref a_o_wheelTold, .int o_trades, .int o_people, .int o_draftTrades, .int o_draftPeople, .int o_isShut, .ref a_o_tunes, .ref a_o_s, .ref a_o_spare, .ref a_o_kept, .ref a_o_isKept, .ref a_o_makes, .ref a_o_works, .ref a_o_order, .int o_falling])), (a_o_s, .inl (cI, 105, .inl o_s))] H → va_D A [(a_o, .inr (5, [.int o_thrown, .long o_trace, .ref a_o_text, .int o_typed, .int o_next, .int o_token, .int o_place, .int o_value, .int o_fault, .ref a_o_need, .ref a_o_made, .ref a_o_skillTold, .ref a_o_placeTold, .ref a_o_skips, .ref a_o_wheelTold, .int o_trades, .int o_people, .int o_draftTrades, .int o_draftPeople, .int o_isShut, .ref a_o_tunes, .ref a_o_s, .ref a_o_spare, .ref a_o_kept, .ref a_o_isKept, .ref a_o_makes, .ref a_o_works, .ref a_o_order, .int o_falling])), (a_o_s, .inl (cI, 105, .inl o_s))] → va_S A s.heap H locs → lv_has ls 3 [(0, .ref a_o), (1, .int l1), (2, .int l2)] → (ro' = none → ∀ (H : Heap) (locs : List Loc) (ls : Array Slot), va_P (dC, dI) vwCl [(a_o, .inr (5, [.int o_thrown, .long o_trace, .ref a_o_text, .int o_typed, .int o_next, .int o_token, .int o_place, .int o_value, .int o_fault, .ref a_o_need, .ref a_o_made, .ref a_o_skillTold, .ref a_o_placeTold, .ref a_o_skips, .ref a_o_wheelTold, .int o_trades, .int o_people, .int o_draftTrades, .int o_draftPeople, .int o_isShut, .ref a_o_tunes, .ref a_o_s, .ref a_o_spare, .ref a_o_kept, .ref a_o_isKept, .ref a_o_makes, .ref a_o_works, .ref a_o_order, .int o_falling])), (a_o_s, .inl (cI, 105, .inl o_s))] H → va_D A [(a_o, .inr (5, [.int o_thrown, .long o_trace, .ref a_o_text, .int o_typed, .int o_next, .int o_token, .int o_place, .int o_value, .int o_fault, .ref a_o_need, .ref a_o_made, .ref a_o_skillTold, .ref a_o_placeTold, .ref a_o_skips, .ref a_o_wheelTold, .int o_trades, .int o_people, .int o_draftTrades, .int o_draftPeople, .int o_isShut, .ref a_o_tunes, .ref a_o_s, .ref a_o_spare, .ref a_o_kept, .ref a_o_isKept, .ref a_o_makes, .ref a_o_works, .ref a_o_order, .int o_falling])), (a_o_s, .inl (cI, 105, .inl o_s))] → va_S A s.heap H locs → lv_has ls 3 [] → W p l e (headSpec wsX5_helperOf rmX5_helperOf).room s m args below meth c H locs 0 0 Q (F0 m 31 ls [])) → (∀ r9 : Int32, ro' = some r9 → ∀ (H : Heap) (locs : List Loc) (ls : Array Slot), va_P (dC, dI) vwCl [(a_o, .inr (5, [.int o_thrown, .long o_trace, .ref a_o_text, .int o_typed, .int o_next, .int o_token, .int o_place, .int o_value, .int o_fault, .ref a_o_need, .ref a_o_made, .ref a_o_skillTold, .ref a_o_placeTold, .ref a_o_skips, .ref a_o_wheelTold, .int o_trades, .int o_people, .int o_draftTrades, .int o_draftPeople, .int o_isShut, .ref a_o_tunes, .ref a_o_s, .ref a_o_spare, .ref a_o_kept, .ref a_o_isKept, .ref a_o_makes, .ref a_o_works, .ref a_o_order, .int o_falling])), (a_o_s, .inl (cI, 105, .inl o_s))] H → va_D A [(a_o, .inr (5, [.int o_thrown, .long o_trace, .ref a_o_text, .int o_typed, .int o_next, .int o_token, .int o_place, .int o_value, .int o_fault, .ref a_o_need, .ref a_o_made, .ref a_o_skillTold, .ref a_o_placeTold, .ref a_o_skips, .ref a_o_wheelTold, .int o_trades, .int o_people, .int o_draftTrades, .int o_draftPeople, .int o_isShut, .ref a_o_tunes, .ref a_o_s, .ref a_o_spare, .ref a_o_kept, .ref a_o_isKept, .ref a_o_makes, .ref a_o_works, .ref a_o_order, .int o_falling])), (a_o_s, .inl (cI, 105, .inl o_s))] → va_S A s.heap H locs → W p l e (headSpec wsX5_helperOf rmX5_helperOf).room s m args below meth c H locs 0 0 Q (F0 m 24 ls [.int r9])) → W p l e (headSpec wsX5_helperOf rmX5_helperOf).room s m args below meth c H locs 0 0 Q (F0 m 2 ls []) := by
  obtain ⟨hx, hb, hr, hml, hown, hts, hlocks, hA, hK, hN⟩ := id hg0
  have hF : CallFix p m c cX5_helperOf 3 s args wsX5_helperOf RX5 := ⟨hx, hb, hml, hown, hts⟩
  intro n
  induction n with
  | zero =>
    intro l2 ro' l2' hf
    have hf := fX5_helperOf_2_0.symm.trans hf
    cases hf
  | succ n ih =>
    intro l2 ro' l2' hf H locs ls hP hD hS hl kx kr24
    have hf := fX5_helperOf_2_s.symm.trans hf
    refine lv_iload_n hx hb dX5_helperOf_2 rfl (lv_at hl 2 rfl) ?_
    refine lv_aload_n hx hb dX5_helperOf_3 rfl (lv_at hl 0 rfl) ?_
    refine va_get (D := (dC, dI)) (ci := 5) (v := .int o_people) (C := RX5) (T := TX5) (N := 29) hx hb hts uX5_helperOf_X5 hown hK hP 0 rfl rfl 16 (by decide) (hts _ mX5_helperOf_0) (fun _ h9 => h9) rfl dX5_helperOf_4 ?_
    refine lv_icmp_ge (tgt := 31) hx hb dX5_helperOf_7 (by decide) (fun c_1 => ?_) (fun c_1 => ?_)
    · have hf := pit hf c_1
      have q0 := Option.some.inj hf
      obtain ⟨e0, q1⟩ := Prod.mk.inj q0
      subst e0
      subst q1
      exact kx rfl _ _ _ hP hD hS (lv_sub hl [] rfl)
    · have hf := pif hf c_1
      refine lv_aload_n hx hb dX5_helperOf_10 rfl (lv_at hl 0 rfl) ?_
      refine va_get (D := (dC, dI)) (ci := 5) (v := .ref a_o_s) (C := RX5) (T := TX5) (N := 29) hx hb hts uX5_helperOf_X5 hown hK hP 0 rfl rfl 21 (by decide) (hts _ mX5_helperOf_1) (fun _ h9 => h9) rfl dX5_helperOf_11 ?_
      refine lv_bipush (v := (26 : Int32)) hx hb dX5_helperOf_14 (by decide) ?_
      refine lv_iload_n hx hb dX5_helperOf_16 rfl (lv_at hl 2 rfl) ?_
      refine lv_iadd hx hb dX5_helperOf_17 ?_
      obtain ⟨h_2, hf⟩ := pgd hf
      refine va_iald hx hb hK hP 1 1 rfl rfl h_2 dX5_helperOf_18 ?_
      refine lv_iload_n hx hb dX5_helperOf_19 rfl (lv_at hl 1 rfl) ?_
      refine lv_icmp_ne (tgt := 25) hx hb dX5_helperOf_20 (by decide) (fun c_3 => ?_) (fun c_3 => ?_)
      · have hf := pif hf c_3
        refine lv_iinc (v := (l2 + 1)) (lv' := [(2, .int (l2 + 1)), (0, .ref a_o), (1, .int l1)]) hx hb dX5_helperOf_25 hl (k := 2) rfl rfl (by decide) rfl (fun ls hl => ?_)
        refine lv_goto (tgt := 2) hx hb dX5_helperOf_28 (by decide) ?_
        exact ih _ _ _ hf _ _ _ hP hD hS (lv_sub hl [1, 2, 0] rfl) kx kr24
      · have hf := pit hf c_3
        refine lv_iload_n hx hb dX5_helperOf_23 rfl (lv_at hl 2 rfl) ?_
        have q0 := Option.some.inj hf
        obtain ⟨e0, q1⟩ := Prod.mk.inj q0
        subst e0
        subst q1
        exact kr24 _ rfl _ _ _ hP hD hS
set_option maxHeartbeats 4000000 in
set_option maxRecDepth 100000 in
theorem kX5_helperOf (l : Launch) (dC : Nat → ClassId) (dI : Nat → Nat → Nat) (Z : gZ) (cC cI cZ cW : ClassId) (a_o a_o_text a_o_need a_o_made a_o_skillTold a_o_placeTold a_o_skips a_o_wheelTold a_o_tunes a_o_s a_o_spare a_o_kept a_o_isKept a_o_makes a_o_works a_o_order : Nat) (sz : Nat) (o_thrown : Int32) (o_trace : Int64) (o_typed : Int32) (o_next : Int32) (o_token : Int32) (o_place : Int32) (o_value : Int32) (o_fault : Int32) (o_trades : Int32) (o_people : Int32) (o_draftTrades : Int32) (o_draftPeople : Int32) (o_isShut : Int32) (o_falling : Int32) (o_s : Nat → Int32) (i1 : Int32) (N : Nat) (r' : Int32) (hf : fX5_helperOf N o_people o_s  i1 = some r') : Met l yX5_helperOf wsX5_helperOf rmX5_helperOf (va_Pc [.ref a_o, .int i1] (gB (dC, dI) Z [(cC, .char), (cI, .int), (cZ, .boolean), (cW, .object RX3)] [(a_o, .inr (5, [.int o_thrown, .long o_trace, .ref a_o_text, .int o_typed, .int o_next, .int o_token, .int o_place, .int o_value, .int o_fault, .ref a_o_need, .ref a_o_made, .ref a_o_skillTold, .ref a_o_placeTold, .ref a_o_skips, .ref a_o_wheelTold, .int o_trades, .int o_people, .int o_draftTrades, .int o_draftPeople, .int o_isShut, .ref a_o_tunes, .ref a_o_s, .ref a_o_spare, .ref a_o_kept, .ref a_o_isKept, .ref a_o_makes, .ref a_o_works, .ref a_o_order, .int o_falling])), (a_o_s, .inl (cI, 105, .inl o_s))] sz)) (va_Qi (fun (r : Int32) (_ : Unit) => r = r') (gE (dC, dI) [(a_o, .inr (5, [.int o_thrown, .long o_trace, .ref a_o_text, .int o_typed, .int o_next, .int o_token, .int o_place, .int o_value, .int o_fault, .ref a_o_need, .ref a_o_made, .ref a_o_skillTold, .ref a_o_placeTold, .ref a_o_skips, .ref a_o_wheelTold, .int o_trades, .int o_people, .int o_draftTrades, .int o_draftPeople, .int o_isShut, .ref a_o_tunes, .ref a_o_s, .ref a_o_spare, .ref a_o_kept, .ref a_o_isKept, .ref a_o_makes, .ref a_o_works, .ref a_o_order, .int o_falling])), (a_o_s, .inl (cI, 105, .inl o_s))]) (va_A [(a_o, .inr (5, [.int o_thrown, .long o_trace, .ref a_o_text, .int o_typed, .int o_next, .int o_token, .int o_place, .int o_value, .int o_fault, .ref a_o_need, .ref a_o_made, .ref a_o_skillTold, .ref a_o_placeTold, .ref a_o_skips, .ref a_o_wheelTold, .int o_trades, .int o_people, .int o_draftTrades, .int o_draftPeople, .int o_isShut, .ref a_o_tunes, .ref a_o_s, .ref a_o_spare, .ref a_o_kept, .ref a_o_isKept, .ref a_o_makes, .ref a_o_works, .ref a_o_order, .int o_falling])), (a_o_s, .inl (cI, 105, .inl o_s))] sz)) 0 0 (va_A [(a_o, .inr (5, [.int o_thrown, .long o_trace, .ref a_o_text, .int o_typed, .int o_next, .int o_token, .int o_place, .int o_value, .int o_fault, .ref a_o_need, .ref a_o_made, .ref a_o_skillTold, .ref a_o_placeTold, .ref a_o_skips, .ref a_o_wheelTold, .int o_trades, .int o_people, .int o_draftTrades, .int o_draftPeople, .int o_isShut, .ref a_o_tunes, .ref a_o_s, .ref a_o_spare, .ref a_o_kept, .ref a_o_isKept, .ref a_o_makes, .ref a_o_works, .ref a_o_order, .int o_falling])), (a_o_s, .inl (cI, 105, .inl o_s))] sz) := by
  refine gMet (cc := cX5_helperOf) (maxL := 3) (ret := (some .int)) (Qc := fun A => va_Qi (fun (r : Int32) (_ : Unit) => r = r') (gE (dC, dI) [(a_o, .inr (5, [.int o_thrown, .long o_trace, .ref a_o_text, .int o_typed, .int o_next, .int o_token, .int o_place, .int o_value, .int o_fault, .ref a_o_need, .ref a_o_made, .ref a_o_skillTold, .ref a_o_placeTold, .ref a_o_skips, .ref a_o_wheelTold, .int o_trades, .int o_people, .int o_draftTrades, .int o_draftPeople, .int o_isShut, .ref a_o_tunes, .ref a_o_s, .ref a_o_spare, .ref a_o_kept, .ref a_o_isKept, .ref a_o_makes, .ref a_o_works, .ref a_o_order, .int o_falling])), (a_o_s, .inl (cI, 105, .inl o_s))]) A) (by decide) rfl (Nat.le_of_ble_eq_true rfl) ?_
  intro p e s m below meth c A ls hg0 _ hsz hP hD hS hl
  have hg0 : gX p s m _ meth c cX5_helperOf 3 (some .int) wsX5_helperOf RX5 (dC, dI) Z [(cC, .char), (cI, .int), (cZ, .boolean), (cW, .object RX3)] A := hg0
  obtain ⟨hx, hb, hr, hml, hown, hts, hlocks, hA, hK, hN⟩ := id hg0
  subst hsz
  have hF : CallFix p m c cX5_helperOf 3 s _ wsX5_helperOf RX5 := ⟨hx, hb, hml, hown, hts⟩
  have hl : lv_has ls 3 [(0, .ref a_o), (1, .int i1)] := hl
  unfold fX5_helperOf at hf
  refine lv_iconst (v := (0 : Int32)) hx hb dX5_helperOf_0 (by decide) ?_
  refine lv_istore_n (lv' := [(2, .int (0 : Int32)), (0, .ref a_o), (1, .int i1)]) hx hb dX5_helperOf_1 rfl hl (by decide) rfl (fun ls hl => ?_)
  obtain ⟨ro_1, l2_2, hc, hf⟩ := pb2 hf
  refine wX5_helperOf_2 hg0 a_o a_o_text a_o_need a_o_made a_o_skillTold a_o_placeTold a_o_skips a_o_wheelTold a_o_tunes a_o_s a_o_spare a_o_kept a_o_isKept a_o_makes a_o_works a_o_order o_thrown o_trace o_typed o_next o_token o_place o_value o_fault o_trades o_people o_draftTrades o_draftPeople o_isShut o_falling o_s i1 N N (0 : Int32) ro_1 l2_2 hc _ _ _ hP hD hS (lv_sub hl [1, 2, 0] rfl) (fun hro H locs ls hP hD hS hl => ?_) (fun r9 hro H locs ls hP hD hS => ?_)
  · subst hro
    have hf := rjn hf
    refine lv_bipush (v := (-9 : Int32)) hx hb dX5_helperOf_31 (by decide) ?_
    have q0 := Option.some.inj hf
    subst q0
    exact gRi hx hb hr hlocks hP hS dX5_helperOf_33
  · subst hro
    have hf := rjs hf
    have q0 := Option.some.inj hf
    subst q0
    exact gRi hx hb hr hlocks hP hS dX5_helperOf_24
abbrev rmX5_workAll : Room := { frames := 2, cells := 0, slots := 0, locals := 45 }
set_option maxRecDepth 20000 in
theorem uX5_workAll_X5 : ∀ w ∈ wsX50, w ∈ wsX5_workAll := by decide +kernel
set_option maxRecDepth 20000 in
theorem mX5_workAll_0 : (Cond.fieldLink RX5 140 "TradeWheelModel" "people" "I" : Cond) ∈ wsX5_workAll := by decide +kernel
set_option maxRecDepth 20000 in
theorem mX5_workAll_1 : (Cond.fieldLink RX5 50 "TradeWheelModel" "works" "[I" : Cond) ∈ wsX5_workAll := by decide +kernel
set_option maxRecDepth 20000 in
theorem mX5_workAll_2 : (Cond.fieldLink RX5 47 "TradeWheelModel" "makes" "[I" : Cond) ∈ wsX5_workAll := by decide +kernel
set_option maxRecDepth 20000 in
theorem mX5_workAll_3 : (Cond.fieldLink RX5 34 "TradeWheelModel" "s" "[I" : Cond) ∈ wsX5_workAll := by decide +kernel
set_option maxRecDepth 20000 in
theorem mX5_workAll_4 : (Cond.fieldLink RX5 16 "TradeWheelModel" "made" "[I" : Cond) ∈ wsX5_workAll := by decide +kernel
set_option maxHeartbeats 4000000 in
set_option maxRecDepth 100000 in
theorem wX5_workAll_2 {p : Program} {l : Launch} {e : Env} {s : State} {m : MethodId} {args : Array Value} {below : List Frame} {meth : Method} {c : Code} {Q : State → Prop} {A : Nat → Prop} {dC : Nat → ClassId} {dI : Nat → Nat → Nat} {Z : gZ} {cC cI cZ cW : ClassId} (hg0 : gX p s m args meth c cX5_workAll 6 none wsX5_workAll RX5 (dC, dI) Z [(cC, .char), (cI, .int), (cZ, .boolean), (cW, .object RX3)] A) (a_o a_o_text a_o_need a_o_made a_o_skillTold a_o_placeTold a_o_skips a_o_wheelTold a_o_tunes a_o_s a_o_spare a_o_kept a_o_isKept a_o_makes a_o_works a_o_order : Nat) (o_thrown : Int32) (o_trace : Int64) (o_typed : Int32) (o_next : Int32) (o_token : Int32) (o_place : Int32) (o_value : Int32) (o_fault : Int32) (o_trades : Int32) (o_people : Int32) (o_draftTrades : Int32) (o_draftPeople : Int32) (o_isShut : Int32) (o_falling : Int32) (o_made : Nat → Int32) (o_skips : Nat → Int32) (o_s : Nat → Int32)  (N : Nat) : ∀ (n : Nat) (o_makes : Nat → Int32) (o_works : Nat → Int32) (l1 : Int32) (o_makes' : Nat → Int32) (o_works' : Nat → Int32) (l1' : Int32), fX5_workAll_2 N o_trades o_people o_made o_skips o_s n o_makes o_works l1 = some (o_makes', o_works', l1') → ∀ (H : Heap) (locs : List Loc) (ls : Array Slot), va_P (dC, dI) vwCl [(a_o, .inr (5, [.int o_thrown, .long o_trace, .ref a_o_text, .int o_typed, .int o_next, .int o_token, .int o_place, .int o_value, .int o_fault, .ref a_o_need, .ref a_o_made, .ref a_o_skillTold, .ref a_o_placeTold, .ref a_o_skips, .ref a_o_wheelTold, .int o_trades, .int o_people, .int o_draftTrades, .int o_draftPeople, .int o_isShut, .ref a_o_tunes, .ref a_o_s, .ref a_o_spare, .ref a_o_kept, .ref a_o_isKept, .ref a_o_makes, .ref a_o_works, .ref a_o_order, .int o_falling])), (a_o_made, .inl (cI, 12, .inl o_made)), (a_o_skips, .inl (cI, 12, .inl o_skips)), (a_o_s, .inl (cI, 105, .inl o_s)), (a_o_makes, .inl (cI, 6, .inl o_makes)), (a_o_works, .inl (cI, 6, .inl o_works))] H → va_D A [(a_o, .inr (5, [.int o_thrown, .long o_trace, .ref a_o_text, .int o_typed, .int o_next, .int o_token, .int o_place, .int o_value, .int o_fault, .ref a_o_need, .ref a_o_made, .ref a_o_skillTold, .ref a_o_placeTold, .ref a_o_skips, .ref a_o_wheelTold, .int o_trades, .int o_people, .int o_draftTrades, .int o_draftPeople, .int o_isShut, .ref a_o_tunes, .ref a_o_s, .ref a_o_spare, .ref a_o_kept, .ref a_o_isKept, .ref a_o_makes, .ref a_o_works, .ref a_o_order, .int o_falling])), (a_o_made, .inl (cI, 12, .inl o_made)), (a_o_skips, .inl (cI, 12, .inl o_skips)), (a_o_s, .inl (cI, 105, .inl o_s)), (a_o_makes, .inl (cI, 6, .inl o_makes)), (a_o_works, .inl (cI, 6, .inl o_works))] → va_S A s.heap H locs → lv_has ls 6 [(0, .ref a_o), (1, .int l1)] → (∀ (H : Heap) (locs : List Loc) (ls : Array Slot), va_P (dC, dI) vwCl [(a_o, .inr (5, [.int o_thrown, .long o_trace, .ref a_o_text, .int o_typed, .int o_next, .int o_token, .int o_place, .int o_value, .int o_fault, .ref a_o_need, .ref a_o_made, .ref a_o_skillTold, .ref a_o_placeTold, .ref a_o_skips, .ref a_o_wheelTold, .int o_trades, .int o_people, .int o_draftTrades, .int o_draftPeople, .int o_isShut, .ref a_o_tunes, .ref a_o_s, .ref a_o_spare, .ref a_o_kept, .ref a_o_isKept, .ref a_o_makes, .ref a_o_works, .ref a_o_order, .int o_falling])), (a_o_made, .inl (cI, 12, .inl o_made)), (a_o_skips, .inl (cI, 12, .inl o_skips)), (a_o_s, .inl (cI, 105, .inl o_s)), (a_o_makes, .inl (cI, 6, .inl o_makes')), (a_o_works, .inl (cI, 6, .inl o_works'))] H → va_D A [(a_o, .inr (5, [.int o_thrown, .long o_trace, .ref a_o_text, .int o_typed, .int o_next, .int o_token, .int o_place, .int o_value, .int o_fault, .ref a_o_need, .ref a_o_made, .ref a_o_skillTold, .ref a_o_placeTold, .ref a_o_skips, .ref a_o_wheelTold, .int o_trades, .int o_people, .int o_draftTrades, .int o_draftPeople, .int o_isShut, .ref a_o_tunes, .ref a_o_s, .ref a_o_spare, .ref a_o_kept, .ref a_o_isKept, .ref a_o_makes, .ref a_o_works, .ref a_o_order, .int o_falling])), (a_o_made, .inl (cI, 12, .inl o_made)), (a_o_skips, .inl (cI, 12, .inl o_skips)), (a_o_s, .inl (cI, 105, .inl o_s)), (a_o_makes, .inl (cI, 6, .inl o_makes')), (a_o_works, .inl (cI, 6, .inl o_works'))] → va_S A s.heap H locs → lv_has ls 6 [(0, .ref a_o)] → W p l e (headSpec wsX5_workAll rmX5_workAll).room s m args below meth c H locs 0 0 Q (F0 m 139 ls [])) → W p l e (headSpec wsX5_workAll rmX5_workAll).room s m args below meth c H locs 0 0 Q (F0 m 2 ls []) := by
  obtain ⟨hx, hb, hr, hml, hown, hts, hlocks, hA, hK, hN⟩ := id hg0
  have hF : CallFix p m c cX5_workAll 6 s args wsX5_workAll RX5 := ⟨hx, hb, hml, hown, hts⟩
  intro n
  induction n with
  | zero =>
    intro o_makes o_works l1 o_makes' o_works' l1' hf
    have hf := fX5_workAll_2_0.symm.trans hf
    cases hf
  | succ n ih =>
    intro o_makes o_works l1 o_makes' o_works' l1' hf H locs ls hP hD hS hl kx
    have hf := fX5_workAll_2_s.symm.trans hf
    refine lv_iload_n hx hb dX5_workAll_2 rfl (lv_at hl 1 rfl) ?_
    refine lv_aload_n hx hb dX5_workAll_3 rfl (lv_at hl 0 rfl) ?_
    refine va_get (D := (dC, dI)) (ci := 5) (v := .int o_people) (C := RX5) (T := TX5) (N := 29) hx hb hts uX5_workAll_X5 hown hK hP 0 rfl rfl 16 (by decide) (hts _ mX5_workAll_0) (fun _ h9 => h9) rfl dX5_workAll_4 ?_
    refine lv_icmp_ge (tgt := 139) hx hb dX5_workAll_7 (by decide) (fun c_1 => ?_) (fun c_1 => ?_)
    · have hf := pit hf c_1
      have q0 := Option.some.inj hf
      obtain ⟨e0, q1⟩ := Prod.mk.inj q0
      obtain ⟨e1, q2⟩ := Prod.mk.inj q1
      subst e0
      subst e1
      subst q2
      exact kx _ _ _ hP hD hS (lv_sub hl [0] rfl)
    · have hf := pif hf c_1
      refine lv_aload_n hx hb dX5_workAll_10 rfl (lv_at hl 0 rfl) ?_
      refine va_get (D := (dC, dI)) (ci := 5) (v := .ref a_o_works) (C := RX5) (T := TX5) (N := 29) hx hb hts uX5_workAll_X5 hown hK hP 0 rfl rfl 26 (by decide) (hts _ mX5_workAll_1) (fun _ h9 => h9) rfl dX5_workAll_11 ?_
      refine lv_iload_n hx hb dX5_workAll_14 rfl (lv_at hl 1 rfl) ?_
      refine lv_aload_n hx hb dX5_workAll_15 rfl (lv_at hl 0 rfl) ?_
      refine lv_iload_n hx hb dX5_workAll_16 rfl (lv_at hl 1 rfl) ?_
      obtain ⟨r_2, hc, hf⟩ := pb1 hf
      refine gCi (va_runV (As := [.int l1]) (rest := [.int l1, .ref a_o_works]) hF (kX5_worksAt l dC dI Z cC cI cZ cW a_o a_o_text a_o_need a_o_made a_o_skillTold a_o_placeTold a_o_skips a_o_wheelTold a_o_tunes a_o_s a_o_spare a_o_kept a_o_isKept a_o_makes a_o_works a_o_order _ o_thrown o_trace o_typed o_next o_token o_place o_value o_fault o_trades o_people o_draftTrades o_draftPeople o_isShut o_falling o_skips o_s l1 N r_2 hc) (cwV 1 hts gX5_workAll_X5_worksAt rfl rfl rfl (by decide +kernel) ⟨Nat.le_of_ble_eq_true rfl, Nat.le_of_ble_eq_true rfl⟩) (gPV (wc := [(a_o, .inr (5, [.int o_thrown, .long o_trace, .ref a_o_text, .int o_typed, .int o_next, .int o_token, .int o_place, .int o_value, .int o_fault, .ref a_o_need, .ref a_o_made, .ref a_o_skillTold, .ref a_o_placeTold, .ref a_o_skips, .ref a_o_wheelTold, .int o_trades, .int o_people, .int o_draftTrades, .int o_draftPeople, .int o_isShut, .ref a_o_tunes, .ref a_o_s, .ref a_o_spare, .ref a_o_kept, .ref a_o_isKept, .ref a_o_makes, .ref a_o_works, .ref a_o_order, .int o_falling])), (a_o_skips, .inl (cI, 12, .inl o_skips)), (a_o_s, .inl (cI, 105, .inl o_s))]) hK hN hA hS hP hD [0, 2, 3] rfl rfl (q0 := 0) (ci := 5) rfl rfl rfl) rfl rfl hl.1 rfl (lv_room (Nat.le_of_ble_eq_true rfl)) dX5_workAll_17 ⟨Nat.zero_le _, Nat.zero_le _⟩) hP hD hS hA [0, 2, 3] rfl rfl rfl (fun H locs hP hD hS => ?_)
      have hP : va_P (dC, dI) vwCl [(a_o, .inr (5, [.int o_thrown, .long o_trace, .ref a_o_text, .int o_typed, .int o_next, .int o_token, .int o_place, .int o_value, .int o_fault, .ref a_o_need, .ref a_o_made, .ref a_o_skillTold, .ref a_o_placeTold, .ref a_o_skips, .ref a_o_wheelTold, .int o_trades, .int o_people, .int o_draftTrades, .int o_draftPeople, .int o_isShut, .ref a_o_tunes, .ref a_o_s, .ref a_o_spare, .ref a_o_kept, .ref a_o_isKept, .ref a_o_makes, .ref a_o_works, .ref a_o_order, .int o_falling])), (a_o_made, .inl (cI, 12, .inl o_made)), (a_o_skips, .inl (cI, 12, .inl o_skips)), (a_o_s, .inl (cI, 105, .inl o_s)), (a_o_makes, .inl (cI, 6, .inl o_makes)), (a_o_works, .inl (cI, 6, .inl o_works))] H := hP
      have hD : va_D A [(a_o, .inr (5, [.int o_thrown, .long o_trace, .ref a_o_text, .int o_typed, .int o_next, .int o_token, .int o_place, .int o_value, .int o_fault, .ref a_o_need, .ref a_o_made, .ref a_o_skillTold, .ref a_o_placeTold, .ref a_o_skips, .ref a_o_wheelTold, .int o_trades, .int o_people, .int o_draftTrades, .int o_draftPeople, .int o_isShut, .ref a_o_tunes, .ref a_o_s, .ref a_o_spare, .ref a_o_kept, .ref a_o_isKept, .ref a_o_makes, .ref a_o_works, .ref a_o_order, .int o_falling])), (a_o_made, .inl (cI, 12, .inl o_made)), (a_o_skips, .inl (cI, 12, .inl o_skips)), (a_o_s, .inl (cI, 105, .inl o_s)), (a_o_makes, .inl (cI, 6, .inl o_makes)), (a_o_works, .inl (cI, 6, .inl o_works))] := hD
      obtain ⟨h_3, hf⟩ := pgd hf
      refine va_iast hx hb hK hP hD hS 5 1 rfl rfl h_3 dX5_workAll_20 (fun H locs hP hD hS => ?_)
      have hP : va_P (dC, dI) vwCl [(a_o, .inr (5, [.int o_thrown, .long o_trace, .ref a_o_text, .int o_typed, .int o_next, .int o_token, .int o_place, .int o_value, .int o_fault, .ref a_o_need, .ref a_o_made, .ref a_o_skillTold, .ref a_o_placeTold, .ref a_o_skips, .ref a_o_wheelTold, .int o_trades, .int o_people, .int o_draftTrades, .int o_draftPeople, .int o_isShut, .ref a_o_tunes, .ref a_o_s, .ref a_o_spare, .ref a_o_kept, .ref a_o_isKept, .ref a_o_makes, .ref a_o_works, .ref a_o_order, .int o_falling])), (a_o_made, .inl (cI, 12, .inl o_made)), (a_o_skips, .inl (cI, 12, .inl o_skips)), (a_o_s, .inl (cI, 105, .inl o_s)), (a_o_makes, .inl (cI, 6, .inl o_makes)), (a_o_works, .inl (cI, 6, .inl (upd o_works l1.toNatClampNeg r_2)))] H := hP
      have hD : va_D A [(a_o, .inr (5, [.int o_thrown, .long o_trace, .ref a_o_text, .int o_typed, .int o_next, .int o_token, .int o_place, .int o_value, .int o_fault, .ref a_o_need, .ref a_o_made, .ref a_o_skillTold, .ref a_o_placeTold, .ref a_o_skips, .ref a_o_wheelTold, .int o_trades, .int o_people, .int o_draftTrades, .int o_draftPeople, .int o_isShut, .ref a_o_tunes, .ref a_o_s, .ref a_o_spare, .ref a_o_kept, .ref a_o_isKept, .ref a_o_makes, .ref a_o_works, .ref a_o_order, .int o_falling])), (a_o_made, .inl (cI, 12, .inl o_made)), (a_o_skips, .inl (cI, 12, .inl o_skips)), (a_o_s, .inl (cI, 105, .inl o_s)), (a_o_makes, .inl (cI, 6, .inl o_makes)), (a_o_works, .inl (cI, 6, .inl (upd o_works l1.toNatClampNeg r_2)))] := hD
      refine lv_aload_n hx hb dX5_workAll_21 rfl (lv_at hl 0 rfl) ?_
      refine va_get (D := (dC, dI)) (ci := 5) (v := .ref a_o_makes) (C := RX5) (T := TX5) (N := 29) hx hb hts uX5_workAll_X5 hown hK hP 0 rfl rfl 25 (by decide) (hts _ mX5_workAll_2) (fun _ h9 => h9) rfl dX5_workAll_22 ?_
      refine lv_iload_n hx hb dX5_workAll_25 rfl (lv_at hl 1 rfl) ?_
      refine lv_iconst (v := (0 : Int32)) hx hb dX5_workAll_26 (by decide) ?_
      obtain ⟨h_4, hf⟩ := pgd hf
      refine va_iast hx hb hK hP hD hS 4 1 rfl rfl h_4 dX5_workAll_27 (fun H locs hP hD hS => ?_)
      have hP : va_P (dC, dI) vwCl [(a_o, .inr (5, [.int o_thrown, .long o_trace, .ref a_o_text, .int o_typed, .int o_next, .int o_token, .int o_place, .int o_value, .int o_fault, .ref a_o_need, .ref a_o_made, .ref a_o_skillTold, .ref a_o_placeTold, .ref a_o_skips, .ref a_o_wheelTold, .int o_trades, .int o_people, .int o_draftTrades, .int o_draftPeople, .int o_isShut, .ref a_o_tunes, .ref a_o_s, .ref a_o_spare, .ref a_o_kept, .ref a_o_isKept, .ref a_o_makes, .ref a_o_works, .ref a_o_order, .int o_falling])), (a_o_made, .inl (cI, 12, .inl o_made)), (a_o_skips, .inl (cI, 12, .inl o_skips)), (a_o_s, .inl (cI, 105, .inl o_s)), (a_o_makes, .inl (cI, 6, .inl (upd o_makes l1.toNatClampNeg (0 : Int32)))), (a_o_works, .inl (cI, 6, .inl (upd o_works l1.toNatClampNeg r_2)))] H := hP
      have hD : va_D A [(a_o, .inr (5, [.int o_thrown, .long o_trace, .ref a_o_text, .int o_typed, .int o_next, .int o_token, .int o_place, .int o_value, .int o_fault, .ref a_o_need, .ref a_o_made, .ref a_o_skillTold, .ref a_o_placeTold, .ref a_o_skips, .ref a_o_wheelTold, .int o_trades, .int o_people, .int o_draftTrades, .int o_draftPeople, .int o_isShut, .ref a_o_tunes, .ref a_o_s, .ref a_o_spare, .ref a_o_kept, .ref a_o_isKept, .ref a_o_makes, .ref a_o_works, .ref a_o_order, .int o_falling])), (a_o_made, .inl (cI, 12, .inl o_made)), (a_o_skips, .inl (cI, 12, .inl o_skips)), (a_o_s, .inl (cI, 105, .inl o_s)), (a_o_makes, .inl (cI, 6, .inl (upd o_makes l1.toNatClampNeg (0 : Int32)))), (a_o_works, .inl (cI, 6, .inl (upd o_works l1.toNatClampNeg r_2)))] := hD
      refine lv_aload_n hx hb dX5_workAll_28 rfl (lv_at hl 0 rfl) ?_
      refine va_get (D := (dC, dI)) (ci := 5) (v := .ref a_o_works) (C := RX5) (T := TX5) (N := 29) hx hb hts uX5_workAll_X5 hown hK hP 0 rfl rfl 26 (by decide) (hts _ mX5_workAll_1) (fun _ h9 => h9) rfl dX5_workAll_29 ?_
      refine lv_iload_n hx hb dX5_workAll_32 rfl (lv_at hl 1 rfl) ?_
      obtain ⟨h_5, hf⟩ := pgd hf
      refine va_iald hx hb hK hP 5 1 rfl rfl h_5 dX5_workAll_33 ?_
      refine lv_istore_n (lv' := [(2, .int ((upd o_works l1.toNatClampNeg r_2) l1.toNatClampNeg)), (0, .ref a_o), (1, .int l1)]) hx hb dX5_workAll_34 rfl hl (by decide) rfl (fun ls hl => ?_)
      refine lv_iload_n hx hb dX5_workAll_35 rfl (lv_at hl 0 rfl) ?_
      refine lv_bipush (v := (-9 : Int32)) hx hb dX5_workAll_36 (by decide) ?_
      refine lv_icmp_eq (tgt := 133) hx hb dX5_workAll_38 (by decide) (fun c_6 => ?_) (fun c_6 => ?_)
      · have hf := pit hf c_6
        refine lv_iinc (v := (l1 + 1)) (lv' := [(1, .int (l1 + 1)), (2, .int ((upd o_works l1.toNatClampNeg r_2) l1.toNatClampNeg)), (0, .ref a_o)]) hx hb dX5_workAll_133 hl (k := 2) rfl rfl (by decide) rfl (fun ls hl => ?_)
        refine lv_goto (tgt := 2) hx hb dX5_workAll_136 (by decide) ?_
        exact ih _ _ _ _ _ _ hf _ _ _ hP hD hS (lv_sub hl [2, 0] rfl) kx
      · have hf := pif hf c_6
        refine lv_aload_n hx hb dX5_workAll_41 rfl (lv_at hl 1 rfl) ?_
        refine lv_iload_n hx hb dX5_workAll_42 rfl (lv_at hl 2 rfl) ?_
        obtain ⟨r_7, hc, hf⟩ := pb1 hf
        refine gCi (va_runV (As := [.int l1]) (rest := []) hF (kX5_isIll l dC dI Z cC cI cZ cW a_o a_o_text a_o_need a_o_made a_o_skillTold a_o_placeTold a_o_skips a_o_wheelTold a_o_tunes a_o_s a_o_spare a_o_kept a_o_isKept a_o_makes a_o_works a_o_order _ o_thrown o_trace o_typed o_next o_token o_place o_value o_fault o_trades o_people o_draftTrades o_draftPeople o_isShut o_falling o_s l1 N r_7 hc) (cwV 1 hts gX5_workAll_X5_isIll rfl rfl rfl (by decide +kernel) ⟨Nat.le_of_ble_eq_true rfl, Nat.le_of_ble_eq_true rfl⟩) (gPV (wc := [(a_o, .inr (5, [.int o_thrown, .long o_trace, .ref a_o_text, .int o_typed, .int o_next, .int o_token, .int o_place, .int o_value, .int o_fault, .ref a_o_need, .ref a_o_made, .ref a_o_skillTold, .ref a_o_placeTold, .ref a_o_skips, .ref a_o_wheelTold, .int o_trades, .int o_people, .int o_draftTrades, .int o_draftPeople, .int o_isShut, .ref a_o_tunes, .ref a_o_s, .ref a_o_spare, .ref a_o_kept, .ref a_o_isKept, .ref a_o_makes, .ref a_o_works, .ref a_o_order, .int o_falling])), (a_o_s, .inl (cI, 105, .inl o_s))]) hK hN hA hS hP hD [0, 3] rfl rfl (q0 := 0) (ci := 5) rfl rfl rfl) rfl rfl hl.1 rfl (lv_room (Nat.le_of_ble_eq_true rfl)) dX5_workAll_43 ⟨Nat.zero_le _, Nat.zero_le _⟩) hP hD hS hA [0, 3] rfl rfl rfl (fun H locs hP hD hS => ?_)
        have hP : va_P (dC, dI) vwCl [(a_o, .inr (5, [.int o_thrown, .long o_trace, .ref a_o_text, .int o_typed, .int o_next, .int o_token, .int o_place, .int o_value, .int o_fault, .ref a_o_need, .ref a_o_made, .ref a_o_skillTold, .ref a_o_placeTold, .ref a_o_skips, .ref a_o_wheelTold, .int o_trades, .int o_people, .int o_draftTrades, .int o_draftPeople, .int o_isShut, .ref a_o_tunes, .ref a_o_s, .ref a_o_spare, .ref a_o_kept, .ref a_o_isKept, .ref a_o_makes, .ref a_o_works, .ref a_o_order, .int o_falling])), (a_o_made, .inl (cI, 12, .inl o_made)), (a_o_skips, .inl (cI, 12, .inl o_skips)), (a_o_s, .inl (cI, 105, .inl o_s)), (a_o_makes, .inl (cI, 6, .inl (upd o_makes l1.toNatClampNeg (0 : Int32)))), (a_o_works, .inl (cI, 6, .inl (upd o_works l1.toNatClampNeg r_2)))] H := hP
        have hD : va_D A [(a_o, .inr (5, [.int o_thrown, .long o_trace, .ref a_o_text, .int o_typed, .int o_next, .int o_token, .int o_place, .int o_value, .int o_fault, .ref a_o_need, .ref a_o_made, .ref a_o_skillTold, .ref a_o_placeTold, .ref a_o_skips, .ref a_o_wheelTold, .int o_trades, .int o_people, .int o_draftTrades, .int o_draftPeople, .int o_isShut, .ref a_o_tunes, .ref a_o_s, .ref a_o_spare, .ref a_o_kept, .ref a_o_isKept, .ref a_o_makes, .ref a_o_works, .ref a_o_order, .int o_falling])), (a_o_made, .inl (cI, 12, .inl o_made)), (a_o_skips, .inl (cI, 12, .inl o_skips)), (a_o_s, .inl (cI, 105, .inl o_s)), (a_o_makes, .inl (cI, 6, .inl (upd o_makes l1.toNatClampNeg (0 : Int32)))), (a_o_works, .inl (cI, 6, .inl (upd o_works l1.toNatClampNeg r_2)))] := hD
        refine lv_if_ne (tgt := 133) hx hb dX5_workAll_46 (by decide) (fun c_8 => ?_) (fun c_8 => ?_)
        · have hf := pif hf c_8
          refine lv_iinc (v := (l1 + 1)) (lv' := [(1, .int (l1 + 1)), (2, .int ((upd o_works l1.toNatClampNeg r_2) l1.toNatClampNeg)), (0, .ref a_o)]) hx hb dX5_workAll_133 hl (k := 2) rfl rfl (by decide) rfl (fun ls hl => ?_)
          refine lv_goto (tgt := 2) hx hb dX5_workAll_136 (by decide) ?_
          exact ih _ _ _ _ _ _ hf _ _ _ hP hD hS (lv_sub hl [2, 0] rfl) kx
        · have hf := pit hf c_8
          refine lv_aload_n hx hb dX5_workAll_49 rfl (lv_at hl 1 rfl) ?_
          refine va_get (D := (dC, dI)) (ci := 5) (v := .ref a_o_s) (C := RX5) (T := TX5) (N := 29) hx hb hts uX5_workAll_X5 hown hK hP 0 rfl rfl 21 (by decide) (hts _ mX5_workAll_3) (fun _ h9 => h9) rfl dX5_workAll_50 ?_
          refine lv_bipush (v := (33 : Int32)) hx hb dX5_workAll_53 (by decide) ?_
          refine lv_bipush (v := (6 : Int32)) hx hb dX5_workAll_55 (by decide) ?_
          refine lv_iload_n hx hb dX5_workAll_57 rfl (lv_at hl 2 rfl) ?_
          refine lv_imul hx hb dX5_workAll_58 ?_
          refine lv_iadd hx hb dX5_workAll_59 ?_
          refine lv_iload_n hx hb dX5_workAll_60 rfl (lv_at hl 0 rfl) ?_
          refine lv_iadd hx hb dX5_workAll_61 ?_
          obtain ⟨h_9, hf⟩ := pgd hf
          refine va_iald hx hb hK hP 3 1 rfl rfl h_9 dX5_workAll_62 ?_
          refine lv_istore_n (lv' := [(3, .int (o_s (((33 : Int32) + ((6 : Int32) * l1)) + ((upd o_works l1.toNatClampNeg r_2) l1.toNatClampNeg)).toNatClampNeg)), (2, .int ((upd o_works l1.toNatClampNeg r_2) l1.toNatClampNeg)), (0, .ref a_o), (1, .int l1)]) hx hb dX5_workAll_63 rfl hl (by decide) rfl (fun ls hl => ?_)
          refine lv_aload_n hx hb dX5_workAll_64 rfl (lv_at hl 2 rfl) ?_
          refine lv_iload_n hx hb dX5_workAll_65 rfl (lv_at hl 3 rfl) ?_
          obtain ⟨r_10, hc, hf⟩ := pb1 hf
          refine gCi (va_runV (As := [.int l1]) (rest := []) hF (kX5_helperOf l dC dI Z cC cI cZ cW a_o a_o_text a_o_need a_o_made a_o_skillTold a_o_placeTold a_o_skips a_o_wheelTold a_o_tunes a_o_s a_o_spare a_o_kept a_o_isKept a_o_makes a_o_works a_o_order _ o_thrown o_trace o_typed o_next o_token o_place o_value o_fault o_trades o_people o_draftTrades o_draftPeople o_isShut o_falling o_s l1 N r_10 hc) (cwV 1 hts gX5_workAll_X5_helperOf rfl rfl rfl (by decide +kernel) ⟨Nat.le_of_ble_eq_true rfl, Nat.le_of_ble_eq_true rfl⟩) (gPV (wc := [(a_o, .inr (5, [.int o_thrown, .long o_trace, .ref a_o_text, .int o_typed, .int o_next, .int o_token, .int o_place, .int o_value, .int o_fault, .ref a_o_need, .ref a_o_made, .ref a_o_skillTold, .ref a_o_placeTold, .ref a_o_skips, .ref a_o_wheelTold, .int o_trades, .int o_people, .int o_draftTrades, .int o_draftPeople, .int o_isShut, .ref a_o_tunes, .ref a_o_s, .ref a_o_spare, .ref a_o_kept, .ref a_o_isKept, .ref a_o_makes, .ref a_o_works, .ref a_o_order, .int o_falling])), (a_o_s, .inl (cI, 105, .inl o_s))]) hK hN hA hS hP hD [0, 3] rfl rfl (q0 := 0) (ci := 5) rfl rfl rfl) rfl rfl hl.1 rfl (lv_room (Nat.le_of_ble_eq_true rfl)) dX5_workAll_66 ⟨Nat.zero_le _, Nat.zero_le _⟩) hP hD hS hA [0, 3] rfl rfl rfl (fun H locs hP hD hS => ?_)
          have hP : va_P (dC, dI) vwCl [(a_o, .inr (5, [.int o_thrown, .long o_trace, .ref a_o_text, .int o_typed, .int o_next, .int o_token, .int o_place, .int o_value, .int o_fault, .ref a_o_need, .ref a_o_made, .ref a_o_skillTold, .ref a_o_placeTold, .ref a_o_skips, .ref a_o_wheelTold, .int o_trades, .int o_people, .int o_draftTrades, .int o_draftPeople, .int o_isShut, .ref a_o_tunes, .ref a_o_s, .ref a_o_spare, .ref a_o_kept, .ref a_o_isKept, .ref a_o_makes, .ref a_o_works, .ref a_o_order, .int o_falling])), (a_o_made, .inl (cI, 12, .inl o_made)), (a_o_skips, .inl (cI, 12, .inl o_skips)), (a_o_s, .inl (cI, 105, .inl o_s)), (a_o_makes, .inl (cI, 6, .inl (upd o_makes l1.toNatClampNeg (0 : Int32)))), (a_o_works, .inl (cI, 6, .inl (upd o_works l1.toNatClampNeg r_2)))] H := hP
          have hD : va_D A [(a_o, .inr (5, [.int o_thrown, .long o_trace, .ref a_o_text, .int o_typed, .int o_next, .int o_token, .int o_place, .int o_value, .int o_fault, .ref a_o_need, .ref a_o_made, .ref a_o_skillTold, .ref a_o_placeTold, .ref a_o_skips, .ref a_o_wheelTold, .int o_trades, .int o_people, .int o_draftTrades, .int o_draftPeople, .int o_isShut, .ref a_o_tunes, .ref a_o_s, .ref a_o_spare, .ref a_o_kept, .ref a_o_isKept, .ref a_o_makes, .ref a_o_works, .ref a_o_order, .int o_falling])), (a_o_made, .inl (cI, 12, .inl o_made)), (a_o_skips, .inl (cI, 12, .inl o_skips)), (a_o_s, .inl (cI, 105, .inl o_s)), (a_o_makes, .inl (cI, 6, .inl (upd o_makes l1.toNatClampNeg (0 : Int32)))), (a_o_works, .inl (cI, 6, .inl (upd o_works l1.toNatClampNeg r_2)))] := hD
          refine lv_istore (lv' := [(4, .int r_10), (3, .int (o_s (((33 : Int32) + ((6 : Int32) * l1)) + ((upd o_works l1.toNatClampNeg r_2) l1.toNatClampNeg)).toNatClampNeg)), (2, .int ((upd o_works l1.toNatClampNeg r_2) l1.toNatClampNeg)), (0, .ref a_o), (1, .int l1)]) hx hb dX5_workAll_69 hl (by decide) rfl (fun ls hl => ?_)
          refine lv_iload hx hb dX5_workAll_71 (lv_at hl 0 rfl) ?_
          refine lv_bipush (v := (-9 : Int32)) hx hb dX5_workAll_73 (by decide) ?_
          refine lv_icmp_eq (tgt := 105) hx hb dX5_workAll_75 (by decide) (fun c_11 => ?_) (fun c_11 => ?_)
          · have hf := pit hf c_11
            refine lv_iconst (v := (0 : Int32)) hx hb dX5_workAll_105 (by decide) ?_
            refine lv_istore (lv' := [(5, .int (0 : Int32)), (4, .int r_10), (3, .int (o_s (((33 : Int32) + ((6 : Int32) * l1)) + ((upd o_works l1.toNatClampNeg r_2) l1.toNatClampNeg)).toNatClampNeg)), (2, .int ((upd o_works l1.toNatClampNeg r_2) l1.toNatClampNeg)), (0, .ref a_o), (1, .int l1)]) hx hb dX5_workAll_106 hl (by decide) rfl (fun ls hl => ?_)
            refine lv_aload_n hx hb dX5_workAll_108 rfl (lv_at hl 4 rfl) ?_
            refine va_get (D := (dC, dI)) (ci := 5) (v := .ref a_o_makes) (C := RX5) (T := TX5) (N := 29) hx hb hts uX5_workAll_X5 hown hK hP 0 rfl rfl 25 (by decide) (hts _ mX5_workAll_2) (fun _ h9 => h9) rfl dX5_workAll_109 ?_
            refine lv_iload_n hx hb dX5_workAll_112 rfl (lv_at hl 5 rfl) ?_
            refine lv_aload_n hx hb dX5_workAll_113 rfl (lv_at hl 4 rfl) ?_
            refine va_get (D := (dC, dI)) (ci := 5) (v := .ref a_o_made) (C := RX5) (T := TX5) (N := 29) hx hb hts uX5_workAll_X5 hown hK hP 0 rfl rfl 10 (by decide) (hts _ mX5_workAll_4) (fun _ h9 => h9) rfl dX5_workAll_114 ?_
            refine lv_iload_n hx hb dX5_workAll_117 rfl (lv_at hl 3 rfl) ?_
            obtain ⟨h_12, hf⟩ := pgd hf
            refine va_iald hx hb hK hP 1 1 rfl rfl h_12 dX5_workAll_118 ?_
            refine lv_iload hx hb dX5_workAll_119 (lv_at hl 0 rfl) ?_
            refine lv_iload_n hx hb dX5_workAll_121 rfl (lv_at hl 2 rfl) ?_
            refine lv_icmp_le (tgt := 130) hx hb dX5_workAll_122 (by decide) (fun c_13 => ?_) (fun c_13 => ?_)
            · have hf := pit hf c_13
              refine lv_iload_n hx hb dX5_workAll_130 rfl (lv_at hl 2 rfl) ?_
              refine lv_imul hx hb dX5_workAll_131 ?_
              obtain ⟨h_14, hf⟩ := pgd hf
              refine va_iast hx hb hK hP hD hS 4 1 rfl rfl h_14 dX5_workAll_132 (fun H locs hP hD hS => ?_)
              have hP : va_P (dC, dI) vwCl [(a_o, .inr (5, [.int o_thrown, .long o_trace, .ref a_o_text, .int o_typed, .int o_next, .int o_token, .int o_place, .int o_value, .int o_fault, .ref a_o_need, .ref a_o_made, .ref a_o_skillTold, .ref a_o_placeTold, .ref a_o_skips, .ref a_o_wheelTold, .int o_trades, .int o_people, .int o_draftTrades, .int o_draftPeople, .int o_isShut, .ref a_o_tunes, .ref a_o_s, .ref a_o_spare, .ref a_o_kept, .ref a_o_isKept, .ref a_o_makes, .ref a_o_works, .ref a_o_order, .int o_falling])), (a_o_made, .inl (cI, 12, .inl o_made)), (a_o_skips, .inl (cI, 12, .inl o_skips)), (a_o_s, .inl (cI, 105, .inl o_s)), (a_o_makes, .inl (cI, 6, .inl (upd (upd o_makes l1.toNatClampNeg (0 : Int32)) l1.toNatClampNeg ((o_made ((upd o_works l1.toNatClampNeg r_2) l1.toNatClampNeg).toNatClampNeg) * (o_s (((33 : Int32) + ((6 : Int32) * l1)) + ((upd o_works l1.toNatClampNeg r_2) l1.toNatClampNeg)).toNatClampNeg))))), (a_o_works, .inl (cI, 6, .inl (upd o_works l1.toNatClampNeg r_2)))] H := hP
              have hD : va_D A [(a_o, .inr (5, [.int o_thrown, .long o_trace, .ref a_o_text, .int o_typed, .int o_next, .int o_token, .int o_place, .int o_value, .int o_fault, .ref a_o_need, .ref a_o_made, .ref a_o_skillTold, .ref a_o_placeTold, .ref a_o_skips, .ref a_o_wheelTold, .int o_trades, .int o_people, .int o_draftTrades, .int o_draftPeople, .int o_isShut, .ref a_o_tunes, .ref a_o_s, .ref a_o_spare, .ref a_o_kept, .ref a_o_isKept, .ref a_o_makes, .ref a_o_works, .ref a_o_order, .int o_falling])), (a_o_made, .inl (cI, 12, .inl o_made)), (a_o_skips, .inl (cI, 12, .inl o_skips)), (a_o_s, .inl (cI, 105, .inl o_s)), (a_o_makes, .inl (cI, 6, .inl (upd (upd o_makes l1.toNatClampNeg (0 : Int32)) l1.toNatClampNeg ((o_made ((upd o_works l1.toNatClampNeg r_2) l1.toNatClampNeg).toNatClampNeg) * (o_s (((33 : Int32) + ((6 : Int32) * l1)) + ((upd o_works l1.toNatClampNeg r_2) l1.toNatClampNeg)).toNatClampNeg))))), (a_o_works, .inl (cI, 6, .inl (upd o_works l1.toNatClampNeg r_2)))] := hD
              refine lv_iinc (v := (l1 + 1)) (lv' := [(1, .int (l1 + 1)), (5, .int (0 : Int32)), (4, .int r_10), (3, .int (o_s (((33 : Int32) + ((6 : Int32) * l1)) + ((upd o_works l1.toNatClampNeg r_2) l1.toNatClampNeg)).toNatClampNeg)), (2, .int ((upd o_works l1.toNatClampNeg r_2) l1.toNatClampNeg)), (0, .ref a_o)]) hx hb dX5_workAll_133 hl (k := 5) rfl rfl (by decide) rfl (fun ls hl => ?_)
              refine lv_goto (tgt := 2) hx hb dX5_workAll_136 (by decide) ?_
              exact ih _ _ _ _ _ _ hf _ _ _ hP hD hS (lv_sub hl [5, 0] rfl) kx
            · have hf := pif hf c_13
              refine lv_iload hx hb dX5_workAll_125 (lv_at hl 0 rfl) ?_
              refine lv_goto (tgt := 131) hx hb dX5_workAll_127 (by decide) ?_
              refine lv_imul hx hb dX5_workAll_131 ?_
              obtain ⟨h_15, hf⟩ := pgd hf
              refine va_iast hx hb hK hP hD hS 4 1 rfl rfl h_15 dX5_workAll_132 (fun H locs hP hD hS => ?_)
              have hP : va_P (dC, dI) vwCl [(a_o, .inr (5, [.int o_thrown, .long o_trace, .ref a_o_text, .int o_typed, .int o_next, .int o_token, .int o_place, .int o_value, .int o_fault, .ref a_o_need, .ref a_o_made, .ref a_o_skillTold, .ref a_o_placeTold, .ref a_o_skips, .ref a_o_wheelTold, .int o_trades, .int o_people, .int o_draftTrades, .int o_draftPeople, .int o_isShut, .ref a_o_tunes, .ref a_o_s, .ref a_o_spare, .ref a_o_kept, .ref a_o_isKept, .ref a_o_makes, .ref a_o_works, .ref a_o_order, .int o_falling])), (a_o_made, .inl (cI, 12, .inl o_made)), (a_o_skips, .inl (cI, 12, .inl o_skips)), (a_o_s, .inl (cI, 105, .inl o_s)), (a_o_makes, .inl (cI, 6, .inl (upd (upd o_makes l1.toNatClampNeg (0 : Int32)) l1.toNatClampNeg ((o_made ((upd o_works l1.toNatClampNeg r_2) l1.toNatClampNeg).toNatClampNeg) * (0 : Int32))))), (a_o_works, .inl (cI, 6, .inl (upd o_works l1.toNatClampNeg r_2)))] H := hP
              have hD : va_D A [(a_o, .inr (5, [.int o_thrown, .long o_trace, .ref a_o_text, .int o_typed, .int o_next, .int o_token, .int o_place, .int o_value, .int o_fault, .ref a_o_need, .ref a_o_made, .ref a_o_skillTold, .ref a_o_placeTold, .ref a_o_skips, .ref a_o_wheelTold, .int o_trades, .int o_people, .int o_draftTrades, .int o_draftPeople, .int o_isShut, .ref a_o_tunes, .ref a_o_s, .ref a_o_spare, .ref a_o_kept, .ref a_o_isKept, .ref a_o_makes, .ref a_o_works, .ref a_o_order, .int o_falling])), (a_o_made, .inl (cI, 12, .inl o_made)), (a_o_skips, .inl (cI, 12, .inl o_skips)), (a_o_s, .inl (cI, 105, .inl o_s)), (a_o_makes, .inl (cI, 6, .inl (upd (upd o_makes l1.toNatClampNeg (0 : Int32)) l1.toNatClampNeg ((o_made ((upd o_works l1.toNatClampNeg r_2) l1.toNatClampNeg).toNatClampNeg) * (0 : Int32))))), (a_o_works, .inl (cI, 6, .inl (upd o_works l1.toNatClampNeg r_2)))] := hD
              refine lv_iinc (v := (l1 + 1)) (lv' := [(1, .int (l1 + 1)), (5, .int (0 : Int32)), (4, .int r_10), (3, .int (o_s (((33 : Int32) + ((6 : Int32) * l1)) + ((upd o_works l1.toNatClampNeg r_2) l1.toNatClampNeg)).toNatClampNeg)), (2, .int ((upd o_works l1.toNatClampNeg r_2) l1.toNatClampNeg)), (0, .ref a_o)]) hx hb dX5_workAll_133 hl (k := 5) rfl rfl (by decide) rfl (fun ls hl => ?_)
              refine lv_goto (tgt := 2) hx hb dX5_workAll_136 (by decide) ?_
              exact ih _ _ _ _ _ _ hf _ _ _ hP hD hS (lv_sub hl [5, 0] rfl) kx
          · have hf := pif hf c_11
            refine lv_aload_n hx hb dX5_workAll_78 rfl (lv_at hl 3 rfl) ?_
            refine lv_iload hx hb dX5_workAll_79 (lv_at hl 0 rfl) ?_
            obtain ⟨r_16, hc, hf⟩ := pb1 hf
            refine gCi (va_runV (As := [.int r_10]) (rest := []) hF (kX5_isIll l dC dI Z cC cI cZ cW a_o a_o_text a_o_need a_o_made a_o_skillTold a_o_placeTold a_o_skips a_o_wheelTold a_o_tunes a_o_s a_o_spare a_o_kept a_o_isKept a_o_makes a_o_works a_o_order _ o_thrown o_trace o_typed o_next o_token o_place o_value o_fault o_trades o_people o_draftTrades o_draftPeople o_isShut o_falling o_s r_10 N r_16 hc) (cwV 1 hts gX5_workAll_X5_isIll rfl rfl rfl (by decide +kernel) ⟨Nat.le_of_ble_eq_true rfl, Nat.le_of_ble_eq_true rfl⟩) (gPV (wc := [(a_o, .inr (5, [.int o_thrown, .long o_trace, .ref a_o_text, .int o_typed, .int o_next, .int o_token, .int o_place, .int o_value, .int o_fault, .ref a_o_need, .ref a_o_made, .ref a_o_skillTold, .ref a_o_placeTold, .ref a_o_skips, .ref a_o_wheelTold, .int o_trades, .int o_people, .int o_draftTrades, .int o_draftPeople, .int o_isShut, .ref a_o_tunes, .ref a_o_s, .ref a_o_spare, .ref a_o_kept, .ref a_o_isKept, .ref a_o_makes, .ref a_o_works, .ref a_o_order, .int o_falling])), (a_o_s, .inl (cI, 105, .inl o_s))]) hK hN hA hS hP hD [0, 3] rfl rfl (q0 := 0) (ci := 5) rfl rfl rfl) rfl rfl hl.1 rfl (lv_room (Nat.le_of_ble_eq_true rfl)) dX5_workAll_81 ⟨Nat.zero_le _, Nat.zero_le _⟩) hP hD hS hA [0, 3] rfl rfl rfl (fun H locs hP hD hS => ?_)
            have hP : va_P (dC, dI) vwCl [(a_o, .inr (5, [.int o_thrown, .long o_trace, .ref a_o_text, .int o_typed, .int o_next, .int o_token, .int o_place, .int o_value, .int o_fault, .ref a_o_need, .ref a_o_made, .ref a_o_skillTold, .ref a_o_placeTold, .ref a_o_skips, .ref a_o_wheelTold, .int o_trades, .int o_people, .int o_draftTrades, .int o_draftPeople, .int o_isShut, .ref a_o_tunes, .ref a_o_s, .ref a_o_spare, .ref a_o_kept, .ref a_o_isKept, .ref a_o_makes, .ref a_o_works, .ref a_o_order, .int o_falling])), (a_o_made, .inl (cI, 12, .inl o_made)), (a_o_skips, .inl (cI, 12, .inl o_skips)), (a_o_s, .inl (cI, 105, .inl o_s)), (a_o_makes, .inl (cI, 6, .inl (upd o_makes l1.toNatClampNeg (0 : Int32)))), (a_o_works, .inl (cI, 6, .inl (upd o_works l1.toNatClampNeg r_2)))] H := hP
            have hD : va_D A [(a_o, .inr (5, [.int o_thrown, .long o_trace, .ref a_o_text, .int o_typed, .int o_next, .int o_token, .int o_place, .int o_value, .int o_fault, .ref a_o_need, .ref a_o_made, .ref a_o_skillTold, .ref a_o_placeTold, .ref a_o_skips, .ref a_o_wheelTold, .int o_trades, .int o_people, .int o_draftTrades, .int o_draftPeople, .int o_isShut, .ref a_o_tunes, .ref a_o_s, .ref a_o_spare, .ref a_o_kept, .ref a_o_isKept, .ref a_o_makes, .ref a_o_works, .ref a_o_order, .int o_falling])), (a_o_made, .inl (cI, 12, .inl o_made)), (a_o_skips, .inl (cI, 12, .inl o_skips)), (a_o_s, .inl (cI, 105, .inl o_s)), (a_o_makes, .inl (cI, 6, .inl (upd o_makes l1.toNatClampNeg (0 : Int32)))), (a_o_works, .inl (cI, 6, .inl (upd o_works l1.toNatClampNeg r_2)))] := hD
            refine lv_if_ne (tgt := 105) hx hb dX5_workAll_84 (by decide) (fun c_17 => ?_) (fun c_17 => ?_)
            · have hf := pif hf c_17
              refine lv_iconst (v := (0 : Int32)) hx hb dX5_workAll_105 (by decide) ?_
              refine lv_istore (lv' := [(5, .int (0 : Int32)), (4, .int r_10), (3, .int (o_s (((33 : Int32) + ((6 : Int32) * l1)) + ((upd o_works l1.toNatClampNeg r_2) l1.toNatClampNeg)).toNatClampNeg)), (2, .int ((upd o_works l1.toNatClampNeg r_2) l1.toNatClampNeg)), (0, .ref a_o), (1, .int l1)]) hx hb dX5_workAll_106 hl (by decide) rfl (fun ls hl => ?_)
              refine lv_aload_n hx hb dX5_workAll_108 rfl (lv_at hl 4 rfl) ?_
              refine va_get (D := (dC, dI)) (ci := 5) (v := .ref a_o_makes) (C := RX5) (T := TX5) (N := 29) hx hb hts uX5_workAll_X5 hown hK hP 0 rfl rfl 25 (by decide) (hts _ mX5_workAll_2) (fun _ h9 => h9) rfl dX5_workAll_109 ?_
              refine lv_iload_n hx hb dX5_workAll_112 rfl (lv_at hl 5 rfl) ?_
              refine lv_aload_n hx hb dX5_workAll_113 rfl (lv_at hl 4 rfl) ?_
              refine va_get (D := (dC, dI)) (ci := 5) (v := .ref a_o_made) (C := RX5) (T := TX5) (N := 29) hx hb hts uX5_workAll_X5 hown hK hP 0 rfl rfl 10 (by decide) (hts _ mX5_workAll_4) (fun _ h9 => h9) rfl dX5_workAll_114 ?_
              refine lv_iload_n hx hb dX5_workAll_117 rfl (lv_at hl 3 rfl) ?_
              obtain ⟨h_18, hf⟩ := pgd hf
              refine va_iald hx hb hK hP 1 1 rfl rfl h_18 dX5_workAll_118 ?_
              refine lv_iload hx hb dX5_workAll_119 (lv_at hl 0 rfl) ?_
              refine lv_iload_n hx hb dX5_workAll_121 rfl (lv_at hl 2 rfl) ?_
              refine lv_icmp_le (tgt := 130) hx hb dX5_workAll_122 (by decide) (fun c_19 => ?_) (fun c_19 => ?_)
              · have hf := pit hf c_19
                refine lv_iload_n hx hb dX5_workAll_130 rfl (lv_at hl 2 rfl) ?_
                refine lv_imul hx hb dX5_workAll_131 ?_
                obtain ⟨h_20, hf⟩ := pgd hf
                refine va_iast hx hb hK hP hD hS 4 1 rfl rfl h_20 dX5_workAll_132 (fun H locs hP hD hS => ?_)
                have hP : va_P (dC, dI) vwCl [(a_o, .inr (5, [.int o_thrown, .long o_trace, .ref a_o_text, .int o_typed, .int o_next, .int o_token, .int o_place, .int o_value, .int o_fault, .ref a_o_need, .ref a_o_made, .ref a_o_skillTold, .ref a_o_placeTold, .ref a_o_skips, .ref a_o_wheelTold, .int o_trades, .int o_people, .int o_draftTrades, .int o_draftPeople, .int o_isShut, .ref a_o_tunes, .ref a_o_s, .ref a_o_spare, .ref a_o_kept, .ref a_o_isKept, .ref a_o_makes, .ref a_o_works, .ref a_o_order, .int o_falling])), (a_o_made, .inl (cI, 12, .inl o_made)), (a_o_skips, .inl (cI, 12, .inl o_skips)), (a_o_s, .inl (cI, 105, .inl o_s)), (a_o_makes, .inl (cI, 6, .inl (upd (upd o_makes l1.toNatClampNeg (0 : Int32)) l1.toNatClampNeg ((o_made ((upd o_works l1.toNatClampNeg r_2) l1.toNatClampNeg).toNatClampNeg) * (o_s (((33 : Int32) + ((6 : Int32) * l1)) + ((upd o_works l1.toNatClampNeg r_2) l1.toNatClampNeg)).toNatClampNeg))))), (a_o_works, .inl (cI, 6, .inl (upd o_works l1.toNatClampNeg r_2)))] H := hP
                have hD : va_D A [(a_o, .inr (5, [.int o_thrown, .long o_trace, .ref a_o_text, .int o_typed, .int o_next, .int o_token, .int o_place, .int o_value, .int o_fault, .ref a_o_need, .ref a_o_made, .ref a_o_skillTold, .ref a_o_placeTold, .ref a_o_skips, .ref a_o_wheelTold, .int o_trades, .int o_people, .int o_draftTrades, .int o_draftPeople, .int o_isShut, .ref a_o_tunes, .ref a_o_s, .ref a_o_spare, .ref a_o_kept, .ref a_o_isKept, .ref a_o_makes, .ref a_o_works, .ref a_o_order, .int o_falling])), (a_o_made, .inl (cI, 12, .inl o_made)), (a_o_skips, .inl (cI, 12, .inl o_skips)), (a_o_s, .inl (cI, 105, .inl o_s)), (a_o_makes, .inl (cI, 6, .inl (upd (upd o_makes l1.toNatClampNeg (0 : Int32)) l1.toNatClampNeg ((o_made ((upd o_works l1.toNatClampNeg r_2) l1.toNatClampNeg).toNatClampNeg) * (o_s (((33 : Int32) + ((6 : Int32) * l1)) + ((upd o_works l1.toNatClampNeg r_2) l1.toNatClampNeg)).toNatClampNeg))))), (a_o_works, .inl (cI, 6, .inl (upd o_works l1.toNatClampNeg r_2)))] := hD
                refine lv_iinc (v := (l1 + 1)) (lv' := [(1, .int (l1 + 1)), (5, .int (0 : Int32)), (4, .int r_10), (3, .int (o_s (((33 : Int32) + ((6 : Int32) * l1)) + ((upd o_works l1.toNatClampNeg r_2) l1.toNatClampNeg)).toNatClampNeg)), (2, .int ((upd o_works l1.toNatClampNeg r_2) l1.toNatClampNeg)), (0, .ref a_o)]) hx hb dX5_workAll_133 hl (k := 5) rfl rfl (by decide) rfl (fun ls hl => ?_)
                refine lv_goto (tgt := 2) hx hb dX5_workAll_136 (by decide) ?_
                exact ih _ _ _ _ _ _ hf _ _ _ hP hD hS (lv_sub hl [5, 0] rfl) kx
              · have hf := pif hf c_19
                refine lv_iload hx hb dX5_workAll_125 (lv_at hl 0 rfl) ?_
                refine lv_goto (tgt := 131) hx hb dX5_workAll_127 (by decide) ?_
                refine lv_imul hx hb dX5_workAll_131 ?_
                obtain ⟨h_21, hf⟩ := pgd hf
                refine va_iast hx hb hK hP hD hS 4 1 rfl rfl h_21 dX5_workAll_132 (fun H locs hP hD hS => ?_)
                have hP : va_P (dC, dI) vwCl [(a_o, .inr (5, [.int o_thrown, .long o_trace, .ref a_o_text, .int o_typed, .int o_next, .int o_token, .int o_place, .int o_value, .int o_fault, .ref a_o_need, .ref a_o_made, .ref a_o_skillTold, .ref a_o_placeTold, .ref a_o_skips, .ref a_o_wheelTold, .int o_trades, .int o_people, .int o_draftTrades, .int o_draftPeople, .int o_isShut, .ref a_o_tunes, .ref a_o_s, .ref a_o_spare, .ref a_o_kept, .ref a_o_isKept, .ref a_o_makes, .ref a_o_works, .ref a_o_order, .int o_falling])), (a_o_made, .inl (cI, 12, .inl o_made)), (a_o_skips, .inl (cI, 12, .inl o_skips)), (a_o_s, .inl (cI, 105, .inl o_s)), (a_o_makes, .inl (cI, 6, .inl (upd (upd o_makes l1.toNatClampNeg (0 : Int32)) l1.toNatClampNeg ((o_made ((upd o_works l1.toNatClampNeg r_2) l1.toNatClampNeg).toNatClampNeg) * (0 : Int32))))), (a_o_works, .inl (cI, 6, .inl (upd o_works l1.toNatClampNeg r_2)))] H := hP
                have hD : va_D A [(a_o, .inr (5, [.int o_thrown, .long o_trace, .ref a_o_text, .int o_typed, .int o_next, .int o_token, .int o_place, .int o_value, .int o_fault, .ref a_o_need, .ref a_o_made, .ref a_o_skillTold, .ref a_o_placeTold, .ref a_o_skips, .ref a_o_wheelTold, .int o_trades, .int o_people, .int o_draftTrades, .int o_draftPeople, .int o_isShut, .ref a_o_tunes, .ref a_o_s, .ref a_o_spare, .ref a_o_kept, .ref a_o_isKept, .ref a_o_makes, .ref a_o_works, .ref a_o_order, .int o_falling])), (a_o_made, .inl (cI, 12, .inl o_made)), (a_o_skips, .inl (cI, 12, .inl o_skips)), (a_o_s, .inl (cI, 105, .inl o_s)), (a_o_makes, .inl (cI, 6, .inl (upd (upd o_makes l1.toNatClampNeg (0 : Int32)) l1.toNatClampNeg ((o_made ((upd o_works l1.toNatClampNeg r_2) l1.toNatClampNeg).toNatClampNeg) * (0 : Int32))))), (a_o_works, .inl (cI, 6, .inl (upd o_works l1.toNatClampNeg r_2)))] := hD
                refine lv_iinc (v := (l1 + 1)) (lv' := [(1, .int (l1 + 1)), (5, .int (0 : Int32)), (4, .int r_10), (3, .int (o_s (((33 : Int32) + ((6 : Int32) * l1)) + ((upd o_works l1.toNatClampNeg r_2) l1.toNatClampNeg)).toNatClampNeg)), (2, .int ((upd o_works l1.toNatClampNeg r_2) l1.toNatClampNeg)), (0, .ref a_o)]) hx hb dX5_workAll_133 hl (k := 5) rfl rfl (by decide) rfl (fun ls hl => ?_)
                refine lv_goto (tgt := 2) hx hb dX5_workAll_136 (by decide) ?_
                exact ih _ _ _ _ _ _ hf _ _ _ hP hD hS (lv_sub hl [5, 0] rfl) kx
            · have hf := pit hf c_17
              refine lv_aload_n hx hb dX5_workAll_87 rfl (lv_at hl 3 rfl) ?_
              refine va_get (D := (dC, dI)) (ci := 5) (v := .ref a_o_s) (C := RX5) (T := TX5) (N := 29) hx hb hts uX5_workAll_X5 hown hK hP 0 rfl rfl 21 (by decide) (hts _ mX5_workAll_3) (fun _ h9 => h9) rfl dX5_workAll_88 ?_
              refine lv_bipush (v := (33 : Int32)) hx hb dX5_workAll_91 (by decide) ?_
              refine lv_bipush (v := (6 : Int32)) hx hb dX5_workAll_93 (by decide) ?_
              refine lv_iload hx hb dX5_workAll_95 (lv_at hl 0 rfl) ?_
              refine lv_imul hx hb dX5_workAll_97 ?_
              refine lv_iadd hx hb dX5_workAll_98 ?_
              refine lv_iload_n hx hb dX5_workAll_99 rfl (lv_at hl 2 rfl) ?_
              refine lv_iadd hx hb dX5_workAll_100 ?_
              obtain ⟨h_22, hf⟩ := pgd hf
              refine va_iald hx hb hK hP 3 1 rfl rfl h_22 dX5_workAll_101 ?_
              refine lv_goto (tgt := 106) hx hb dX5_workAll_102 (by decide) ?_
              refine lv_istore (lv' := [(5, .int (o_s (((33 : Int32) + ((6 : Int32) * r_10)) + ((upd o_works l1.toNatClampNeg r_2) l1.toNatClampNeg)).toNatClampNeg)), (4, .int r_10), (3, .int (o_s (((33 : Int32) + ((6 : Int32) * l1)) + ((upd o_works l1.toNatClampNeg r_2) l1.toNatClampNeg)).toNatClampNeg)), (2, .int ((upd o_works l1.toNatClampNeg r_2) l1.toNatClampNeg)), (0, .ref a_o), (1, .int l1)]) hx hb dX5_workAll_106 hl (by decide) rfl (fun ls hl => ?_)
              refine lv_aload_n hx hb dX5_workAll_108 rfl (lv_at hl 4 rfl) ?_
              refine va_get (D := (dC, dI)) (ci := 5) (v := .ref a_o_makes) (C := RX5) (T := TX5) (N := 29) hx hb hts uX5_workAll_X5 hown hK hP 0 rfl rfl 25 (by decide) (hts _ mX5_workAll_2) (fun _ h9 => h9) rfl dX5_workAll_109 ?_
              refine lv_iload_n hx hb dX5_workAll_112 rfl (lv_at hl 5 rfl) ?_
              refine lv_aload_n hx hb dX5_workAll_113 rfl (lv_at hl 4 rfl) ?_
              refine va_get (D := (dC, dI)) (ci := 5) (v := .ref a_o_made) (C := RX5) (T := TX5) (N := 29) hx hb hts uX5_workAll_X5 hown hK hP 0 rfl rfl 10 (by decide) (hts _ mX5_workAll_4) (fun _ h9 => h9) rfl dX5_workAll_114 ?_
              refine lv_iload_n hx hb dX5_workAll_117 rfl (lv_at hl 3 rfl) ?_
              obtain ⟨h_23, hf⟩ := pgd hf
              refine va_iald hx hb hK hP 1 1 rfl rfl h_23 dX5_workAll_118 ?_
              refine lv_iload hx hb dX5_workAll_119 (lv_at hl 0 rfl) ?_
              refine lv_iload_n hx hb dX5_workAll_121 rfl (lv_at hl 2 rfl) ?_
              refine lv_icmp_le (tgt := 130) hx hb dX5_workAll_122 (by decide) (fun c_24 => ?_) (fun c_24 => ?_)
              · have hf := pit hf c_24
                refine lv_iload_n hx hb dX5_workAll_130 rfl (lv_at hl 2 rfl) ?_
                refine lv_imul hx hb dX5_workAll_131 ?_
                obtain ⟨h_25, hf⟩ := pgd hf
                refine va_iast hx hb hK hP hD hS 4 1 rfl rfl h_25 dX5_workAll_132 (fun H locs hP hD hS => ?_)
                have hP : va_P (dC, dI) vwCl [(a_o, .inr (5, [.int o_thrown, .long o_trace, .ref a_o_text, .int o_typed, .int o_next, .int o_token, .int o_place, .int o_value, .int o_fault, .ref a_o_need, .ref a_o_made, .ref a_o_skillTold, .ref a_o_placeTold, .ref a_o_skips, .ref a_o_wheelTold, .int o_trades, .int o_people, .int o_draftTrades, .int o_draftPeople, .int o_isShut, .ref a_o_tunes, .ref a_o_s, .ref a_o_spare, .ref a_o_kept, .ref a_o_isKept, .ref a_o_makes, .ref a_o_works, .ref a_o_order, .int o_falling])), (a_o_made, .inl (cI, 12, .inl o_made)), (a_o_skips, .inl (cI, 12, .inl o_skips)), (a_o_s, .inl (cI, 105, .inl o_s)), (a_o_makes, .inl (cI, 6, .inl (upd (upd o_makes l1.toNatClampNeg (0 : Int32)) l1.toNatClampNeg ((o_made ((upd o_works l1.toNatClampNeg r_2) l1.toNatClampNeg).toNatClampNeg) * (o_s (((33 : Int32) + ((6 : Int32) * l1)) + ((upd o_works l1.toNatClampNeg r_2) l1.toNatClampNeg)).toNatClampNeg))))), (a_o_works, .inl (cI, 6, .inl (upd o_works l1.toNatClampNeg r_2)))] H := hP
                have hD : va_D A [(a_o, .inr (5, [.int o_thrown, .long o_trace, .ref a_o_text, .int o_typed, .int o_next, .int o_token, .int o_place, .int o_value, .int o_fault, .ref a_o_need, .ref a_o_made, .ref a_o_skillTold, .ref a_o_placeTold, .ref a_o_skips, .ref a_o_wheelTold, .int o_trades, .int o_people, .int o_draftTrades, .int o_draftPeople, .int o_isShut, .ref a_o_tunes, .ref a_o_s, .ref a_o_spare, .ref a_o_kept, .ref a_o_isKept, .ref a_o_makes, .ref a_o_works, .ref a_o_order, .int o_falling])), (a_o_made, .inl (cI, 12, .inl o_made)), (a_o_skips, .inl (cI, 12, .inl o_skips)), (a_o_s, .inl (cI, 105, .inl o_s)), (a_o_makes, .inl (cI, 6, .inl (upd (upd o_makes l1.toNatClampNeg (0 : Int32)) l1.toNatClampNeg ((o_made ((upd o_works l1.toNatClampNeg r_2) l1.toNatClampNeg).toNatClampNeg) * (o_s (((33 : Int32) + ((6 : Int32) * l1)) + ((upd o_works l1.toNatClampNeg r_2) l1.toNatClampNeg)).toNatClampNeg))))), (a_o_works, .inl (cI, 6, .inl (upd o_works l1.toNatClampNeg r_2)))] := hD
                refine lv_iinc (v := (l1 + 1)) (lv' := [(1, .int (l1 + 1)), (5, .int (o_s (((33 : Int32) + ((6 : Int32) * r_10)) + ((upd o_works l1.toNatClampNeg r_2) l1.toNatClampNeg)).toNatClampNeg)), (4, .int r_10), (3, .int (o_s (((33 : Int32) + ((6 : Int32) * l1)) + ((upd o_works l1.toNatClampNeg r_2) l1.toNatClampNeg)).toNatClampNeg)), (2, .int ((upd o_works l1.toNatClampNeg r_2) l1.toNatClampNeg)), (0, .ref a_o)]) hx hb dX5_workAll_133 hl (k := 5) rfl rfl (by decide) rfl (fun ls hl => ?_)
                refine lv_goto (tgt := 2) hx hb dX5_workAll_136 (by decide) ?_
                exact ih _ _ _ _ _ _ hf _ _ _ hP hD hS (lv_sub hl [5, 0] rfl) kx
              · have hf := pif hf c_24
                refine lv_iload hx hb dX5_workAll_125 (lv_at hl 0 rfl) ?_
                refine lv_goto (tgt := 131) hx hb dX5_workAll_127 (by decide) ?_
                refine lv_imul hx hb dX5_workAll_131 ?_
                obtain ⟨h_26, hf⟩ := pgd hf
                refine va_iast hx hb hK hP hD hS 4 1 rfl rfl h_26 dX5_workAll_132 (fun H locs hP hD hS => ?_)
                have hP : va_P (dC, dI) vwCl [(a_o, .inr (5, [.int o_thrown, .long o_trace, .ref a_o_text, .int o_typed, .int o_next, .int o_token, .int o_place, .int o_value, .int o_fault, .ref a_o_need, .ref a_o_made, .ref a_o_skillTold, .ref a_o_placeTold, .ref a_o_skips, .ref a_o_wheelTold, .int o_trades, .int o_people, .int o_draftTrades, .int o_draftPeople, .int o_isShut, .ref a_o_tunes, .ref a_o_s, .ref a_o_spare, .ref a_o_kept, .ref a_o_isKept, .ref a_o_makes, .ref a_o_works, .ref a_o_order, .int o_falling])), (a_o_made, .inl (cI, 12, .inl o_made)), (a_o_skips, .inl (cI, 12, .inl o_skips)), (a_o_s, .inl (cI, 105, .inl o_s)), (a_o_makes, .inl (cI, 6, .inl (upd (upd o_makes l1.toNatClampNeg (0 : Int32)) l1.toNatClampNeg ((o_made ((upd o_works l1.toNatClampNeg r_2) l1.toNatClampNeg).toNatClampNeg) * (o_s (((33 : Int32) + ((6 : Int32) * r_10)) + ((upd o_works l1.toNatClampNeg r_2) l1.toNatClampNeg)).toNatClampNeg))))), (a_o_works, .inl (cI, 6, .inl (upd o_works l1.toNatClampNeg r_2)))] H := hP
                have hD : va_D A [(a_o, .inr (5, [.int o_thrown, .long o_trace, .ref a_o_text, .int o_typed, .int o_next, .int o_token, .int o_place, .int o_value, .int o_fault, .ref a_o_need, .ref a_o_made, .ref a_o_skillTold, .ref a_o_placeTold, .ref a_o_skips, .ref a_o_wheelTold, .int o_trades, .int o_people, .int o_draftTrades, .int o_draftPeople, .int o_isShut, .ref a_o_tunes, .ref a_o_s, .ref a_o_spare, .ref a_o_kept, .ref a_o_isKept, .ref a_o_makes, .ref a_o_works, .ref a_o_order, .int o_falling])), (a_o_made, .inl (cI, 12, .inl o_made)), (a_o_skips, .inl (cI, 12, .inl o_skips)), (a_o_s, .inl (cI, 105, .inl o_s)), (a_o_makes, .inl (cI, 6, .inl (upd (upd o_makes l1.toNatClampNeg (0 : Int32)) l1.toNatClampNeg ((o_made ((upd o_works l1.toNatClampNeg r_2) l1.toNatClampNeg).toNatClampNeg) * (o_s (((33 : Int32) + ((6 : Int32) * r_10)) + ((upd o_works l1.toNatClampNeg r_2) l1.toNatClampNeg)).toNatClampNeg))))), (a_o_works, .inl (cI, 6, .inl (upd o_works l1.toNatClampNeg r_2)))] := hD
                refine lv_iinc (v := (l1 + 1)) (lv' := [(1, .int (l1 + 1)), (5, .int (o_s (((33 : Int32) + ((6 : Int32) * r_10)) + ((upd o_works l1.toNatClampNeg r_2) l1.toNatClampNeg)).toNatClampNeg)), (4, .int r_10), (3, .int (o_s (((33 : Int32) + ((6 : Int32) * l1)) + ((upd o_works l1.toNatClampNeg r_2) l1.toNatClampNeg)).toNatClampNeg)), (2, .int ((upd o_works l1.toNatClampNeg r_2) l1.toNatClampNeg)), (0, .ref a_o)]) hx hb dX5_workAll_133 hl (k := 5) rfl rfl (by decide) rfl (fun ls hl => ?_)
                refine lv_goto (tgt := 2) hx hb dX5_workAll_136 (by decide) ?_
                exact ih _ _ _ _ _ _ hf _ _ _ hP hD hS (lv_sub hl [5, 0] rfl) kx
set_option maxHeartbeats 4000000 in
set_option maxRecDepth 100000 in
theorem wX5_workAll_141 {p : Program} {l : Launch} {e : Env} {s : State} {m : MethodId} {args : Array Value} {below : List Frame} {meth : Method} {c : Code} {Q : State → Prop} {A : Nat → Prop} {dC : Nat → ClassId} {dI : Nat → Nat → Nat} {Z : gZ} {cC cI cZ cW : ClassId} (hg0 : gX p s m args meth c cX5_workAll 6 none wsX5_workAll RX5 (dC, dI) Z [(cC, .char), (cI, .int), (cZ, .boolean), (cW, .object RX3)] A) (a_o a_o_text a_o_need a_o_made a_o_skillTold a_o_placeTold a_o_skips a_o_wheelTold a_o_tunes a_o_s a_o_spare a_o_kept a_o_isKept a_o_makes a_o_works a_o_order : Nat) (o_thrown : Int32) (o_trace : Int64) (o_typed : Int32) (o_next : Int32) (o_token : Int32) (o_place : Int32) (o_value : Int32) (o_fault : Int32) (o_trades : Int32) (o_people : Int32) (o_draftTrades : Int32) (o_draftPeople : Int32) (o_isShut : Int32) (o_falling : Int32) (o_made : Nat → Int32) (o_skips : Nat → Int32) (o_makes : Nat → Int32) (o_works : Nat → Int32)  (N : Nat) : ∀ (n : Nat) (o_s : Nat → Int32) (l1 : Int32) (o_s' : Nat → Int32) (l1' : Int32), fX5_workAll_141 N o_people o_makes o_works n o_s l1 = some (o_s', l1') → ∀ (H : Heap) (locs : List Loc) (ls : Array Slot), va_P (dC, dI) vwCl [(a_o, .inr (5, [.int o_thrown, .long o_trace, .ref a_o_text, .int o_typed, .int o_next, .int o_token, .int o_place, .int o_value, .int o_fault, .ref a_o_need, .ref a_o_made, .ref a_o_skillTold, .ref a_o_placeTold, .ref a_o_skips, .ref a_o_wheelTold, .int o_trades, .int o_people, .int o_draftTrades, .int o_draftPeople, .int o_isShut, .ref a_o_tunes, .ref a_o_s, .ref a_o_spare, .ref a_o_kept, .ref a_o_isKept, .ref a_o_makes, .ref a_o_works, .ref a_o_order, .int o_falling])), (a_o_made, .inl (cI, 12, .inl o_made)), (a_o_skips, .inl (cI, 12, .inl o_skips)), (a_o_s, .inl (cI, 105, .inl o_s)), (a_o_makes, .inl (cI, 6, .inl o_makes)), (a_o_works, .inl (cI, 6, .inl o_works))] H → va_D A [(a_o, .inr (5, [.int o_thrown, .long o_trace, .ref a_o_text, .int o_typed, .int o_next, .int o_token, .int o_place, .int o_value, .int o_fault, .ref a_o_need, .ref a_o_made, .ref a_o_skillTold, .ref a_o_placeTold, .ref a_o_skips, .ref a_o_wheelTold, .int o_trades, .int o_people, .int o_draftTrades, .int o_draftPeople, .int o_isShut, .ref a_o_tunes, .ref a_o_s, .ref a_o_spare, .ref a_o_kept, .ref a_o_isKept, .ref a_o_makes, .ref a_o_works, .ref a_o_order, .int o_falling])), (a_o_made, .inl (cI, 12, .inl o_made)), (a_o_skips, .inl (cI, 12, .inl o_skips)), (a_o_s, .inl (cI, 105, .inl o_s)), (a_o_makes, .inl (cI, 6, .inl o_makes)), (a_o_works, .inl (cI, 6, .inl o_works))] → va_S A s.heap H locs → lv_has ls 6 [(0, .ref a_o), (1, .int l1)] → (∀ (H : Heap) (locs : List Loc) (ls : Array Slot), va_P (dC, dI) vwCl [(a_o, .inr (5, [.int o_thrown, .long o_trace, .ref a_o_text, .int o_typed, .int o_next, .int o_token, .int o_place, .int o_value, .int o_fault, .ref a_o_need, .ref a_o_made, .ref a_o_skillTold, .ref a_o_placeTold, .ref a_o_skips, .ref a_o_wheelTold, .int o_trades, .int o_people, .int o_draftTrades, .int o_draftPeople, .int o_isShut, .ref a_o_tunes, .ref a_o_s, .ref a_o_spare, .ref a_o_kept, .ref a_o_isKept, .ref a_o_makes, .ref a_o_works, .ref a_o_order, .int o_falling])), (a_o_made, .inl (cI, 12, .inl o_made)), (a_o_skips, .inl (cI, 12, .inl o_skips)), (a_o_s, .inl (cI, 105, .inl o_s')), (a_o_makes, .inl (cI, 6, .inl o_makes)), (a_o_works, .inl (cI, 6, .inl o_works))] H → va_D A [(a_o, .inr (5, [.int o_thrown, .long o_trace, .ref a_o_text, .int o_typed, .int o_next, .int o_token, .int o_place, .int o_value, .int o_fault, .ref a_o_need, .ref a_o_made, .ref a_o_skillTold, .ref a_o_placeTold, .ref a_o_skips, .ref a_o_wheelTold, .int o_trades, .int o_people, .int o_draftTrades, .int o_draftPeople, .int o_isShut, .ref a_o_tunes, .ref a_o_s, .ref a_o_spare, .ref a_o_kept, .ref a_o_isKept, .ref a_o_makes, .ref a_o_works, .ref a_o_order, .int o_falling])), (a_o_made, .inl (cI, 12, .inl o_made)), (a_o_skips, .inl (cI, 12, .inl o_skips)), (a_o_s, .inl (cI, 105, .inl o_s')), (a_o_makes, .inl (cI, 6, .inl o_makes)), (a_o_works, .inl (cI, 6, .inl o_works))] → va_S A s.heap H locs → lv_has ls 6 [] → W p l e (headSpec wsX5_workAll rmX5_workAll).room s m args below meth c H locs 0 0 Q (F0 m 188 ls [])) → W p l e (headSpec wsX5_workAll rmX5_workAll).room s m args below meth c H locs 0 0 Q (F0 m 141 ls []) := by
  obtain ⟨hx, hb, hr, hml, hown, hts, hlocks, hA, hK, hN⟩ := id hg0
  have hF : CallFix p m c cX5_workAll 6 s args wsX5_workAll RX5 := ⟨hx, hb, hml, hown, hts⟩
  intro n
  induction n with
  | zero =>
    intro o_s l1 o_s' l1' hf
    have hf := fX5_workAll_141_0.symm.trans hf
    cases hf
  | succ n ih =>
    intro o_s l1 o_s' l1' hf H locs ls hP hD hS hl kx
    have hf := fX5_workAll_141_s.symm.trans hf
    refine lv_iload_n hx hb dX5_workAll_141 rfl (lv_at hl 1 rfl) ?_
    refine lv_aload_n hx hb dX5_workAll_142 rfl (lv_at hl 0 rfl) ?_
    refine va_get (D := (dC, dI)) (ci := 5) (v := .int o_people) (C := RX5) (T := TX5) (N := 29) hx hb hts uX5_workAll_X5 hown hK hP 0 rfl rfl 16 (by decide) (hts _ mX5_workAll_0) (fun _ h9 => h9) rfl dX5_workAll_143 ?_
    refine lv_icmp_ge (tgt := 188) hx hb dX5_workAll_146 (by decide) (fun c_1 => ?_) (fun c_1 => ?_)
    · have hf := pit hf c_1
      have q0 := Option.some.inj hf
      obtain ⟨e0, q1⟩ := Prod.mk.inj q0
      subst e0
      subst q1
      exact kx _ _ _ hP hD hS (lv_sub hl [] rfl)
    · have hf := pif hf c_1
      refine lv_aload_n hx hb dX5_workAll_149 rfl (lv_at hl 0 rfl) ?_
      refine va_get (D := (dC, dI)) (ci := 5) (v := .ref a_o_works) (C := RX5) (T := TX5) (N := 29) hx hb hts uX5_workAll_X5 hown hK hP 0 rfl rfl 26 (by decide) (hts _ mX5_workAll_1) (fun _ h9 => h9) rfl dX5_workAll_150 ?_
      refine lv_iload_n hx hb dX5_workAll_153 rfl (lv_at hl 1 rfl) ?_
      obtain ⟨h_2, hf⟩ := pgd hf
      refine va_iald hx hb hK hP 5 1 rfl rfl h_2 dX5_workAll_154 ?_
      refine lv_bipush (v := (-9 : Int32)) hx hb dX5_workAll_155 (by decide) ?_
      refine lv_icmp_eq (tgt := 182) hx hb dX5_workAll_157 (by decide) (fun c_3 => ?_) (fun c_3 => ?_)
      · have hf := pit hf c_3
        refine lv_iinc (v := (l1 + 1)) (lv' := [(1, .int (l1 + 1)), (0, .ref a_o)]) hx hb dX5_workAll_182 hl (k := 1) rfl rfl (by decide) rfl (fun ls hl => ?_)
        refine lv_goto (tgt := 141) hx hb dX5_workAll_185 (by decide) ?_
        exact ih _ _ _ _ hf _ _ _ hP hD hS (lv_sub hl [1, 0] rfl) kx
      · have hf := pif hf c_3
        refine lv_aload_n hx hb dX5_workAll_160 rfl (lv_at hl 0 rfl) ?_
        refine va_get (D := (dC, dI)) (ci := 5) (v := .ref a_o_s) (C := RX5) (T := TX5) (N := 29) hx hb hts uX5_workAll_X5 hown hK hP 0 rfl rfl 21 (by decide) (hts _ mX5_workAll_3) (fun _ h9 => h9) rfl dX5_workAll_161 ?_
        refine lv_iconst (v := (2 : Int32)) hx hb dX5_workAll_164 (by decide) ?_
        refine lv_aload_n hx hb dX5_workAll_165 rfl (lv_at hl 0 rfl) ?_
        refine va_get (D := (dC, dI)) (ci := 5) (v := .ref a_o_works) (C := RX5) (T := TX5) (N := 29) hx hb hts uX5_workAll_X5 hown hK hP 0 rfl rfl 26 (by decide) (hts _ mX5_workAll_1) (fun _ h9 => h9) rfl dX5_workAll_166 ?_
        refine lv_iload_n hx hb dX5_workAll_169 rfl (lv_at hl 1 rfl) ?_
        obtain ⟨h_4, hf⟩ := pgd hf
        refine va_iald hx hb hK hP 5 1 rfl rfl h_4 dX5_workAll_170 ?_
        refine lv_iadd hx hb dX5_workAll_171 ?_
        refine lv_dup2_11 hx hb dX5_workAll_172 rfl rfl ?_
        obtain ⟨h_5, hf⟩ := pgd hf
        refine va_iald hx hb hK hP 3 1 rfl rfl h_5 dX5_workAll_173 ?_
        refine lv_aload_n hx hb dX5_workAll_174 rfl (lv_at hl 0 rfl) ?_
        refine va_get (D := (dC, dI)) (ci := 5) (v := .ref a_o_makes) (C := RX5) (T := TX5) (N := 29) hx hb hts uX5_workAll_X5 hown hK hP 0 rfl rfl 25 (by decide) (hts _ mX5_workAll_2) (fun _ h9 => h9) rfl dX5_workAll_175 ?_
        refine lv_iload_n hx hb dX5_workAll_178 rfl (lv_at hl 1 rfl) ?_
        obtain ⟨h_6, hf⟩ := pgd hf
        refine va_iald hx hb hK hP 4 1 rfl rfl h_6 dX5_workAll_179 ?_
        refine lv_iadd hx hb dX5_workAll_180 ?_
        obtain ⟨h_7, hf⟩ := pgd hf
        refine va_iast hx hb hK hP hD hS 3 1 rfl rfl h_7 dX5_workAll_181 (fun H locs hP hD hS => ?_)
        have hP : va_P (dC, dI) vwCl [(a_o, .inr (5, [.int o_thrown, .long o_trace, .ref a_o_text, .int o_typed, .int o_next, .int o_token, .int o_place, .int o_value, .int o_fault, .ref a_o_need, .ref a_o_made, .ref a_o_skillTold, .ref a_o_placeTold, .ref a_o_skips, .ref a_o_wheelTold, .int o_trades, .int o_people, .int o_draftTrades, .int o_draftPeople, .int o_isShut, .ref a_o_tunes, .ref a_o_s, .ref a_o_spare, .ref a_o_kept, .ref a_o_isKept, .ref a_o_makes, .ref a_o_works, .ref a_o_order, .int o_falling])), (a_o_made, .inl (cI, 12, .inl o_made)), (a_o_skips, .inl (cI, 12, .inl o_skips)), (a_o_s, .inl (cI, 105, .inl (upd o_s ((2 : Int32) + (o_works l1.toNatClampNeg)).toNatClampNeg ((o_s ((2 : Int32) + (o_works l1.toNatClampNeg)).toNatClampNeg) + (o_makes l1.toNatClampNeg))))), (a_o_makes, .inl (cI, 6, .inl o_makes)), (a_o_works, .inl (cI, 6, .inl o_works))] H := hP
        have hD : va_D A [(a_o, .inr (5, [.int o_thrown, .long o_trace, .ref a_o_text, .int o_typed, .int o_next, .int o_token, .int o_place, .int o_value, .int o_fault, .ref a_o_need, .ref a_o_made, .ref a_o_skillTold, .ref a_o_placeTold, .ref a_o_skips, .ref a_o_wheelTold, .int o_trades, .int o_people, .int o_draftTrades, .int o_draftPeople, .int o_isShut, .ref a_o_tunes, .ref a_o_s, .ref a_o_spare, .ref a_o_kept, .ref a_o_isKept, .ref a_o_makes, .ref a_o_works, .ref a_o_order, .int o_falling])), (a_o_made, .inl (cI, 12, .inl o_made)), (a_o_skips, .inl (cI, 12, .inl o_skips)), (a_o_s, .inl (cI, 105, .inl (upd o_s ((2 : Int32) + (o_works l1.toNatClampNeg)).toNatClampNeg ((o_s ((2 : Int32) + (o_works l1.toNatClampNeg)).toNatClampNeg) + (o_makes l1.toNatClampNeg))))), (a_o_makes, .inl (cI, 6, .inl o_makes)), (a_o_works, .inl (cI, 6, .inl o_works))] := hD
        refine lv_iinc (v := (l1 + 1)) (lv' := [(1, .int (l1 + 1)), (0, .ref a_o)]) hx hb dX5_workAll_182 hl (k := 1) rfl rfl (by decide) rfl (fun ls hl => ?_)
        refine lv_goto (tgt := 141) hx hb dX5_workAll_185 (by decide) ?_
        exact ih _ _ _ _ hf _ _ _ hP hD hS (lv_sub hl [1, 0] rfl) kx
set_option maxHeartbeats 4000000 in
set_option maxRecDepth 100000 in
theorem kX5_workAll (l : Launch) (dC : Nat → ClassId) (dI : Nat → Nat → Nat) (Z : gZ) (cC cI cZ cW : ClassId) (a_o a_o_text a_o_need a_o_made a_o_skillTold a_o_placeTold a_o_skips a_o_wheelTold a_o_tunes a_o_s a_o_spare a_o_kept a_o_isKept a_o_makes a_o_works a_o_order : Nat) (sz : Nat) (o_thrown : Int32) (o_trace : Int64) (o_typed : Int32) (o_next : Int32) (o_token : Int32) (o_place : Int32) (o_value : Int32) (o_fault : Int32) (o_trades : Int32) (o_people : Int32) (o_draftTrades : Int32) (o_draftPeople : Int32) (o_isShut : Int32) (o_falling : Int32) (o_made : Nat → Int32) (o_skips : Nat → Int32) (o_s : Nat → Int32) (o_makes : Nat → Int32) (o_works : Nat → Int32)  (N : Nat) (o_s' : Nat → Int32) (o_makes' : Nat → Int32) (o_works' : Nat → Int32) (hf : fX5_workAll N o_trades o_people o_made o_skips o_s o_makes o_works   = some (o_s', o_makes', o_works')) : Met l yX5_workAll wsX5_workAll rmX5_workAll (va_Pc [.ref a_o] (gB (dC, dI) Z [(cC, .char), (cI, .int), (cZ, .boolean), (cW, .object RX3)] [(a_o, .inr (5, [.int o_thrown, .long o_trace, .ref a_o_text, .int o_typed, .int o_next, .int o_token, .int o_place, .int o_value, .int o_fault, .ref a_o_need, .ref a_o_made, .ref a_o_skillTold, .ref a_o_placeTold, .ref a_o_skips, .ref a_o_wheelTold, .int o_trades, .int o_people, .int o_draftTrades, .int o_draftPeople, .int o_isShut, .ref a_o_tunes, .ref a_o_s, .ref a_o_spare, .ref a_o_kept, .ref a_o_isKept, .ref a_o_makes, .ref a_o_works, .ref a_o_order, .int o_falling])), (a_o_made, .inl (cI, 12, .inl o_made)), (a_o_skips, .inl (cI, 12, .inl o_skips)), (a_o_s, .inl (cI, 105, .inl o_s)), (a_o_makes, .inl (cI, 6, .inl o_makes)), (a_o_works, .inl (cI, 6, .inl o_works))] sz)) (va_Qv (fun (_ : Unit) => True) (gE (dC, dI) [(a_o, .inr (5, [.int o_thrown, .long o_trace, .ref a_o_text, .int o_typed, .int o_next, .int o_token, .int o_place, .int o_value, .int o_fault, .ref a_o_need, .ref a_o_made, .ref a_o_skillTold, .ref a_o_placeTold, .ref a_o_skips, .ref a_o_wheelTold, .int o_trades, .int o_people, .int o_draftTrades, .int o_draftPeople, .int o_isShut, .ref a_o_tunes, .ref a_o_s, .ref a_o_spare, .ref a_o_kept, .ref a_o_isKept, .ref a_o_makes, .ref a_o_works, .ref a_o_order, .int o_falling])), (a_o_made, .inl (cI, 12, .inl o_made)), (a_o_skips, .inl (cI, 12, .inl o_skips)), (a_o_s, .inl (cI, 105, .inl o_s')), (a_o_makes, .inl (cI, 6, .inl o_makes')), (a_o_works, .inl (cI, 6, .inl o_works'))]) (va_A [(a_o, .inr (5, [.int o_thrown, .long o_trace, .ref a_o_text, .int o_typed, .int o_next, .int o_token, .int o_place, .int o_value, .int o_fault, .ref a_o_need, .ref a_o_made, .ref a_o_skillTold, .ref a_o_placeTold, .ref a_o_skips, .ref a_o_wheelTold, .int o_trades, .int o_people, .int o_draftTrades, .int o_draftPeople, .int o_isShut, .ref a_o_tunes, .ref a_o_s, .ref a_o_spare, .ref a_o_kept, .ref a_o_isKept, .ref a_o_makes, .ref a_o_works, .ref a_o_order, .int o_falling])), (a_o_made, .inl (cI, 12, .inl o_made)), (a_o_skips, .inl (cI, 12, .inl o_skips)), (a_o_s, .inl (cI, 105, .inl o_s)), (a_o_makes, .inl (cI, 6, .inl o_makes)), (a_o_works, .inl (cI, 6, .inl o_works))] sz)) 0 0 (va_A [(a_o, .inr (5, [.int o_thrown, .long o_trace, .ref a_o_text, .int o_typed, .int o_next, .int o_token, .int o_place, .int o_value, .int o_fault, .ref a_o_need, .ref a_o_made, .ref a_o_skillTold, .ref a_o_placeTold, .ref a_o_skips, .ref a_o_wheelTold, .int o_trades, .int o_people, .int o_draftTrades, .int o_draftPeople, .int o_isShut, .ref a_o_tunes, .ref a_o_s, .ref a_o_spare, .ref a_o_kept, .ref a_o_isKept, .ref a_o_makes, .ref a_o_works, .ref a_o_order, .int o_falling])), (a_o_made, .inl (cI, 12, .inl o_made)), (a_o_skips, .inl (cI, 12, .inl o_skips)), (a_o_s, .inl (cI, 105, .inl o_s)), (a_o_makes, .inl (cI, 6, .inl o_makes)), (a_o_works, .inl (cI, 6, .inl o_works))] sz) := by
  refine gMet (cc := cX5_workAll) (maxL := 6) (ret := none) (Qc := fun A => va_Qv (fun (_ : Unit) => True) (gE (dC, dI) [(a_o, .inr (5, [.int o_thrown, .long o_trace, .ref a_o_text, .int o_typed, .int o_next, .int o_token, .int o_place, .int o_value, .int o_fault, .ref a_o_need, .ref a_o_made, .ref a_o_skillTold, .ref a_o_placeTold, .ref a_o_skips, .ref a_o_wheelTold, .int o_trades, .int o_people, .int o_draftTrades, .int o_draftPeople, .int o_isShut, .ref a_o_tunes, .ref a_o_s, .ref a_o_spare, .ref a_o_kept, .ref a_o_isKept, .ref a_o_makes, .ref a_o_works, .ref a_o_order, .int o_falling])), (a_o_made, .inl (cI, 12, .inl o_made)), (a_o_skips, .inl (cI, 12, .inl o_skips)), (a_o_s, .inl (cI, 105, .inl o_s')), (a_o_makes, .inl (cI, 6, .inl o_makes')), (a_o_works, .inl (cI, 6, .inl o_works'))]) A) (by decide) rfl (Nat.le_of_ble_eq_true rfl) ?_
  intro p e s m below meth c A ls hg0 _ hsz hP hD hS hl
  have hg0 : gX p s m _ meth c cX5_workAll 6 none wsX5_workAll RX5 (dC, dI) Z [(cC, .char), (cI, .int), (cZ, .boolean), (cW, .object RX3)] A := hg0
  obtain ⟨hx, hb, hr, hml, hown, hts, hlocks, hA, hK, hN⟩ := id hg0
  subst hsz
  have hF : CallFix p m c cX5_workAll 6 s _ wsX5_workAll RX5 := ⟨hx, hb, hml, hown, hts⟩
  have hl : lv_has ls 6 [(0, .ref a_o)] := hl
  unfold fX5_workAll at hf
  refine lv_iconst (v := (0 : Int32)) hx hb dX5_workAll_0 (by decide) ?_
  refine lv_istore_n (lv' := [(1, .int (0 : Int32)), (0, .ref a_o)]) hx hb dX5_workAll_1 rfl hl (by decide) rfl (fun ls hl => ?_)
  obtain ⟨o_makes_1, o_works_2, l1_3, hc, hf⟩ := pb3 hf
  refine wX5_workAll_2 hg0 a_o a_o_text a_o_need a_o_made a_o_skillTold a_o_placeTold a_o_skips a_o_wheelTold a_o_tunes a_o_s a_o_spare a_o_kept a_o_isKept a_o_makes a_o_works a_o_order o_thrown o_trace o_typed o_next o_token o_place o_value o_fault o_trades o_people o_draftTrades o_draftPeople o_isShut o_falling o_made o_skips o_s  N N o_makes o_works (0 : Int32) o_makes_1 o_works_2 l1_3 hc _ _ _ hP hD hS (lv_sub hl [1, 0] rfl) (fun H locs ls hP hD hS hl => ?_)
  refine lv_iconst (v := (0 : Int32)) hx hb dX5_workAll_139 (by decide) ?_
  refine lv_istore_n (lv' := [(1, .int (0 : Int32)), (0, .ref a_o)]) hx hb dX5_workAll_140 rfl hl (by decide) rfl (fun ls hl => ?_)
  obtain ⟨o_s_4, l1_5, hc, hf⟩ := pb2 hf
  refine wX5_workAll_141 hg0 a_o a_o_text a_o_need a_o_made a_o_skillTold a_o_placeTold a_o_skips a_o_wheelTold a_o_tunes a_o_s a_o_spare a_o_kept a_o_isKept a_o_makes a_o_works a_o_order o_thrown o_trace o_typed o_next o_token o_place o_value o_fault o_trades o_people o_draftTrades o_draftPeople o_isShut o_falling o_made o_skips o_makes_1 o_works_2  N N o_s (0 : Int32) o_s_4 l1_5 hc _ _ _ hP hD hS (lv_sub hl [1, 0] rfl) (fun H locs ls hP hD hS hl => ?_)
  have q0 := Option.some.inj hf
  obtain ⟨e0, q1⟩ := Prod.mk.inj q0
  obtain ⟨e1, q2⟩ := Prod.mk.inj q1
  subst e0
  subst e1
  subst q2
  exact gRv hx hb hr hlocks hP hS dX5_workAll_188
abbrev rmX5_takesNeeds : Room := { frames := 0, cells := 0, slots := 0, locals := 0 }
set_option maxRecDepth 20000 in
theorem uX5_takesNeeds_X5 : ∀ w ∈ wsX50, w ∈ wsX5_takesNeeds := by decide +kernel
set_option maxRecDepth 20000 in
theorem mX5_takesNeeds_0 : (Cond.fieldLink RX5 137 "TradeWheelModel" "trades" "I" : Cond) ∈ wsX5_takesNeeds := by decide +kernel
set_option maxRecDepth 20000 in
theorem mX5_takesNeeds_1 : (Cond.fieldLink RX5 34 "TradeWheelModel" "s" "[I" : Cond) ∈ wsX5_takesNeeds := by decide +kernel
set_option maxRecDepth 20000 in
theorem mX5_takesNeeds_2 : (Cond.fieldLink RX5 13 "TradeWheelModel" "need" "[I" : Cond) ∈ wsX5_takesNeeds := by decide +kernel
set_option maxRecDepth 20000 in
theorem mX5_takesNeeds_3 : (Cond.fieldLink RX5 31 "TradeWheelModel" "tunes" "[I" : Cond) ∈ wsX5_takesNeeds := by decide +kernel
set_option maxHeartbeats 4000000 in
set_option maxRecDepth 100000 in
theorem wX5_takesNeeds_4 {p : Program} {l : Launch} {e : Env} {s : State} {m : MethodId} {args : Array Value} {below : List Frame} {meth : Method} {c : Code} {Q : State → Prop} {A : Nat → Prop} {dC : Nat → ClassId} {dI : Nat → Nat → Nat} {Z : gZ} {cC cI cZ cW : ClassId} (hg0 : gX p s m args meth c cX5_takesNeeds 5 (some .int) wsX5_takesNeeds RX5 (dC, dI) Z [(cC, .char), (cI, .int), (cZ, .boolean), (cW, .object RX3)] A) (a_o a_o_text a_o_need a_o_made a_o_skillTold a_o_placeTold a_o_skips a_o_wheelTold a_o_tunes a_o_s a_o_spare a_o_kept a_o_isKept a_o_makes a_o_works a_o_order : Nat) (o_thrown : Int32) (o_trace : Int64) (o_typed : Int32) (o_next : Int32) (o_token : Int32) (o_place : Int32) (o_value : Int32) (o_fault : Int32) (o_trades : Int32) (o_people : Int32) (o_draftTrades : Int32) (o_draftPeople : Int32) (o_isShut : Int32) (o_falling : Int32) (o_need : Nat → Int32) (o_tunes : Nat → Int32)  (N : Nat) : ∀ (n : Nat) (o_s : Nat → Int32) (l1 : Int32) (l2 : Int32) (o_s' : Nat → Int32) (l1' : Int32) (l2' : Int32), fX5_takesNeeds_4 N o_trades o_need o_tunes n o_s l1 l2 = some (o_s', l1', l2') → ∀ (H : Heap) (locs : List Loc) (ls : Array Slot), va_P (dC, dI) vwCl [(a_o, .inr (5, [.int o_thrown, .long o_trace, .ref a_o_text, .int o_typed, .int o_next, .int o_token, .int o_place, .int o_value, .int o_fault, .ref a_o_need, .ref a_o_made, .ref a_o_skillTold, .ref a_o_placeTold, .ref a_o_skips, .ref a_o_wheelTold, .int o_trades, .int o_people, .int o_draftTrades, .int o_draftPeople, .int o_isShut, .ref a_o_tunes, .ref a_o_s, .ref a_o_spare, .ref a_o_kept, .ref a_o_isKept, .ref a_o_makes, .ref a_o_works, .ref a_o_order, .int o_falling])), (a_o_need, .inl (cI, 12, .inl o_need)), (a_o_tunes, .inl (cI, 3, .inl o_tunes)), (a_o_s, .inl (cI, 105, .inl o_s))] H → va_D A [(a_o, .inr (5, [.int o_thrown, .long o_trace, .ref a_o_text, .int o_typed, .int o_next, .int o_token, .int o_place, .int o_value, .int o_fault, .ref a_o_need, .ref a_o_made, .ref a_o_skillTold, .ref a_o_placeTold, .ref a_o_skips, .ref a_o_wheelTold, .int o_trades, .int o_people, .int o_draftTrades, .int o_draftPeople, .int o_isShut, .ref a_o_tunes, .ref a_o_s, .ref a_o_spare, .ref a_o_kept, .ref a_o_isKept, .ref a_o_makes, .ref a_o_works, .ref a_o_order, .int o_falling])), (a_o_need, .inl (cI, 12, .inl o_need)), (a_o_tunes, .inl (cI, 3, .inl o_tunes)), (a_o_s, .inl (cI, 105, .inl o_s))] → va_S A s.heap H locs → lv_has ls 5 [(0, .ref a_o), (1, .int l1), (2, .int l2)] → (∀ (H : Heap) (locs : List Loc) (ls : Array Slot), va_P (dC, dI) vwCl [(a_o, .inr (5, [.int o_thrown, .long o_trace, .ref a_o_text, .int o_typed, .int o_next, .int o_token, .int o_place, .int o_value, .int o_fault, .ref a_o_need, .ref a_o_made, .ref a_o_skillTold, .ref a_o_placeTold, .ref a_o_skips, .ref a_o_wheelTold, .int o_trades, .int o_people, .int o_draftTrades, .int o_draftPeople, .int o_isShut, .ref a_o_tunes, .ref a_o_s, .ref a_o_spare, .ref a_o_kept, .ref a_o_isKept, .ref a_o_makes, .ref a_o_works, .ref a_o_order, .int o_falling])), (a_o_need, .inl (cI, 12, .inl o_need)), (a_o_tunes, .inl (cI, 3, .inl o_tunes)), (a_o_s, .inl (cI, 105, .inl o_s'))] H → va_D A [(a_o, .inr (5, [.int o_thrown, .long o_trace, .ref a_o_text, .int o_typed, .int o_next, .int o_token, .int o_place, .int o_value, .int o_fault, .ref a_o_need, .ref a_o_made, .ref a_o_skillTold, .ref a_o_placeTold, .ref a_o_skips, .ref a_o_wheelTold, .int o_trades, .int o_people, .int o_draftTrades, .int o_draftPeople, .int o_isShut, .ref a_o_tunes, .ref a_o_s, .ref a_o_spare, .ref a_o_kept, .ref a_o_isKept, .ref a_o_makes, .ref a_o_works, .ref a_o_order, .int o_falling])), (a_o_need, .inl (cI, 12, .inl o_need)), (a_o_tunes, .inl (cI, 3, .inl o_tunes)), (a_o_s, .inl (cI, 105, .inl o_s'))] → va_S A s.heap H locs → lv_has ls 5 [(0, .ref a_o), (1, .int l1')] → W p l e (headSpec wsX5_takesNeeds rmX5_takesNeeds).room s m args below meth c H locs 0 0 Q (F0 m 133 ls [])) → W p l e (headSpec wsX5_takesNeeds rmX5_takesNeeds).room s m args below meth c H locs 0 0 Q (F0 m 4 ls []) := by
  obtain ⟨hx, hb, hr, hml, hown, hts, hlocks, hA, hK, hN⟩ := id hg0
  have hF : CallFix p m c cX5_takesNeeds 5 s args wsX5_takesNeeds RX5 := ⟨hx, hb, hml, hown, hts⟩
  intro n
  induction n with
  | zero =>
    intro o_s l1 l2 o_s' l1' l2' hf
    have hf := fX5_takesNeeds_4_0.symm.trans hf
    cases hf
  | succ n ih =>
    intro o_s l1 l2 o_s' l1' l2' hf H locs ls hP hD hS hl kx
    have hf := fX5_takesNeeds_4_s.symm.trans hf
    refine lv_iload_n hx hb dX5_takesNeeds_4 rfl (lv_at hl 2 rfl) ?_
    refine lv_aload_n hx hb dX5_takesNeeds_5 rfl (lv_at hl 0 rfl) ?_
    refine va_get (D := (dC, dI)) (ci := 5) (v := .int o_trades) (C := RX5) (T := TX5) (N := 29) hx hb hts uX5_takesNeeds_X5 hown hK hP 0 rfl rfl 15 (by decide) (hts _ mX5_takesNeeds_0) (fun _ h9 => h9) rfl dX5_takesNeeds_6 ?_
    refine lv_icmp_ge (tgt := 133) hx hb dX5_takesNeeds_9 (by decide) (fun c_1 => ?_) (fun c_1 => ?_)
    · have hf := pit hf c_1
      have q0 := Option.some.inj hf
      obtain ⟨e0, q1⟩ := Prod.mk.inj q0
      obtain ⟨e1, q2⟩ := Prod.mk.inj q1
      subst e0
      subst e1
      subst q2
      exact kx _ _ _ hP hD hS (lv_sub hl [0, 1] rfl)
    · have hf := pif hf c_1
      refine lv_aload_n hx hb dX5_takesNeeds_12 rfl (lv_at hl 0 rfl) ?_
      refine va_get (D := (dC, dI)) (ci := 5) (v := .ref a_o_s) (C := RX5) (T := TX5) (N := 29) hx hb hts uX5_takesNeeds_X5 hown hK hP 0 rfl rfl 21 (by decide) (hts _ mX5_takesNeeds_1) (fun _ h9 => h9) rfl dX5_takesNeeds_13 ?_
      refine lv_iconst (v := (0 : Int32)) hx hb dX5_takesNeeds_16 (by decide) ?_
      obtain ⟨h_2, hf⟩ := pgd hf
      refine va_iald hx hb hK hP 3 1 rfl rfl h_2 dX5_takesNeeds_17 ?_
      refine lv_iconst (v := (4 : Int32)) hx hb dX5_takesNeeds_18 (by decide) ?_
      refine lv_irem hx hb dX5_takesNeeds_19 (by decide) ?_
      refine lv_iconst (v := (3 : Int32)) hx hb dX5_takesNeeds_20 (by decide) ?_
      refine lv_icmp_ne (tgt := 46) hx hb dX5_takesNeeds_21 (by decide) (fun c_3 => ?_) (fun c_3 => ?_)
      · have hf := pif hf c_3
        refine lv_aload_n hx hb dX5_takesNeeds_46 rfl (lv_at hl 0 rfl) ?_
        refine va_get (D := (dC, dI)) (ci := 5) (v := .ref a_o_need) (C := RX5) (T := TX5) (N := 29) hx hb hts uX5_takesNeeds_X5 hown hK hP 0 rfl rfl 9 (by decide) (hts _ mX5_takesNeeds_2) (fun _ h9 => h9) rfl dX5_takesNeeds_47 ?_
        refine lv_iload_n hx hb dX5_takesNeeds_50 rfl (lv_at hl 2 rfl) ?_
        obtain ⟨h_4, hf⟩ := pgd hf
        refine va_iald hx hb hK hP 1 1 rfl rfl h_4 dX5_takesNeeds_51 ?_
        refine lv_istore_n (lv' := [(3, .int (o_need l2.toNatClampNeg)), (0, .ref a_o), (1, .int l1), (2, .int l2)]) hx hb dX5_takesNeeds_52 rfl hl (by decide) rfl (fun ls hl => ?_)
        refine lv_iload_n hx hb dX5_takesNeeds_53 rfl (lv_at hl 0 rfl) ?_
        refine lv_aload_n hx hb dX5_takesNeeds_54 rfl (lv_at hl 1 rfl) ?_
        refine va_get (D := (dC, dI)) (ci := 5) (v := .ref a_o_s) (C := RX5) (T := TX5) (N := 29) hx hb hts uX5_takesNeeds_X5 hown hK hP 0 rfl rfl 21 (by decide) (hts _ mX5_takesNeeds_1) (fun _ h9 => h9) rfl dX5_takesNeeds_55 ?_
        refine lv_iconst (v := (2 : Int32)) hx hb dX5_takesNeeds_58 (by decide) ?_
        refine lv_iload_n hx hb dX5_takesNeeds_59 rfl (lv_at hl 3 rfl) ?_
        refine lv_iadd hx hb dX5_takesNeeds_60 ?_
        obtain ⟨h_5, hf⟩ := pgd hf
        refine va_iald hx hb hK hP 3 1 rfl rfl h_5 dX5_takesNeeds_61 ?_
        refine lv_icmp_le (tgt := 78) hx hb dX5_takesNeeds_62 (by decide) (fun c_6 => ?_) (fun c_6 => ?_)
        · have hf := pit hf c_6
          refine lv_iconst (v := (0 : Int32)) hx hb dX5_takesNeeds_78 (by decide) ?_
          refine lv_istore (lv' := [(4, .int (0 : Int32)), (3, .int (o_need l2.toNatClampNeg)), (0, .ref a_o), (1, .int l1), (2, .int l2)]) hx hb dX5_takesNeeds_79 hl (by decide) rfl (fun ls hl => ?_)
          refine lv_aload_n hx hb dX5_takesNeeds_81 rfl (lv_at hl 2 rfl) ?_
          refine va_get (D := (dC, dI)) (ci := 5) (v := .ref a_o_s) (C := RX5) (T := TX5) (N := 29) hx hb hts uX5_takesNeeds_X5 hown hK hP 0 rfl rfl 21 (by decide) (hts _ mX5_takesNeeds_1) (fun _ h9 => h9) rfl dX5_takesNeeds_82 ?_
          refine lv_iconst (v := (2 : Int32)) hx hb dX5_takesNeeds_85 (by decide) ?_
          refine lv_iload_n hx hb dX5_takesNeeds_86 rfl (lv_at hl 4 rfl) ?_
          refine lv_iadd hx hb dX5_takesNeeds_87 ?_
          refine lv_iload hx hb dX5_takesNeeds_88 (lv_at hl 0 rfl) ?_
          refine lv_if_le (tgt := 97) hx hb dX5_takesNeeds_90 (by decide) (fun c_7 => ?_) (fun c_7 => ?_)
          · have hf := pit hf c_7
            refine lv_aload_n hx hb dX5_takesNeeds_97 rfl (lv_at hl 2 rfl) ?_
            refine va_get (D := (dC, dI)) (ci := 5) (v := .ref a_o_s) (C := RX5) (T := TX5) (N := 29) hx hb hts uX5_takesNeeds_X5 hown hK hP 0 rfl rfl 21 (by decide) (hts _ mX5_takesNeeds_1) (fun _ h9 => h9) rfl dX5_takesNeeds_98 ?_
            refine lv_iconst (v := (2 : Int32)) hx hb dX5_takesNeeds_101 (by decide) ?_
            refine lv_iload_n hx hb dX5_takesNeeds_102 rfl (lv_at hl 4 rfl) ?_
            refine lv_iadd hx hb dX5_takesNeeds_103 ?_
            obtain ⟨h_8, hf⟩ := pgd hf
            refine va_iald hx hb hK hP 3 1 rfl rfl h_8 dX5_takesNeeds_104 ?_
            refine lv_iload_n hx hb dX5_takesNeeds_105 rfl (lv_at hl 1 rfl) ?_
            refine lv_isub hx hb dX5_takesNeeds_106 ?_
            obtain ⟨h_9, hf⟩ := pgd hf
            refine va_iast hx hb hK hP hD hS 3 1 rfl rfl h_9 dX5_takesNeeds_107 (fun H locs hP hD hS => ?_)
            have hP : va_P (dC, dI) vwCl [(a_o, .inr (5, [.int o_thrown, .long o_trace, .ref a_o_text, .int o_typed, .int o_next, .int o_token, .int o_place, .int o_value, .int o_fault, .ref a_o_need, .ref a_o_made, .ref a_o_skillTold, .ref a_o_placeTold, .ref a_o_skips, .ref a_o_wheelTold, .int o_trades, .int o_people, .int o_draftTrades, .int o_draftPeople, .int o_isShut, .ref a_o_tunes, .ref a_o_s, .ref a_o_spare, .ref a_o_kept, .ref a_o_isKept, .ref a_o_makes, .ref a_o_works, .ref a_o_order, .int o_falling])), (a_o_need, .inl (cI, 12, .inl o_need)), (a_o_tunes, .inl (cI, 3, .inl o_tunes)), (a_o_s, .inl (cI, 105, .inl (upd o_s ((2 : Int32) + l2).toNatClampNeg ((o_s ((2 : Int32) + l2).toNatClampNeg) - (o_need l2.toNatClampNeg)))))] H := hP
            have hD : va_D A [(a_o, .inr (5, [.int o_thrown, .long o_trace, .ref a_o_text, .int o_typed, .int o_next, .int o_token, .int o_place, .int o_value, .int o_fault, .ref a_o_need, .ref a_o_made, .ref a_o_skillTold, .ref a_o_placeTold, .ref a_o_skips, .ref a_o_wheelTold, .int o_trades, .int o_people, .int o_draftTrades, .int o_draftPeople, .int o_isShut, .ref a_o_tunes, .ref a_o_s, .ref a_o_spare, .ref a_o_kept, .ref a_o_isKept, .ref a_o_makes, .ref a_o_works, .ref a_o_order, .int o_falling])), (a_o_need, .inl (cI, 12, .inl o_need)), (a_o_tunes, .inl (cI, 3, .inl o_tunes)), (a_o_s, .inl (cI, 105, .inl (upd o_s ((2 : Int32) + l2).toNatClampNeg ((o_s ((2 : Int32) + l2).toNatClampNeg) - (o_need l2.toNatClampNeg)))))] := hD
            refine lv_aload_n hx hb dX5_takesNeeds_108 rfl (lv_at hl 2 rfl) ?_
            refine va_get (D := (dC, dI)) (ci := 5) (v := .ref a_o_s) (C := RX5) (T := TX5) (N := 29) hx hb hts uX5_takesNeeds_X5 hown hK hP 0 rfl rfl 21 (by decide) (hts _ mX5_takesNeeds_1) (fun _ h9 => h9) rfl dX5_takesNeeds_109 ?_
            refine lv_bipush (v := (8 : Int32)) hx hb dX5_takesNeeds_112 (by decide) ?_
            refine lv_iload_n hx hb dX5_takesNeeds_114 rfl (lv_at hl 4 rfl) ?_
            refine lv_iadd hx hb dX5_takesNeeds_115 ?_
            refine lv_dup2_11 hx hb dX5_takesNeeds_116 rfl rfl ?_
            obtain ⟨h_10, hf⟩ := pgd hf
            refine va_iald hx hb hK hP 3 1 rfl rfl h_10 dX5_takesNeeds_117 ?_
            refine lv_iload hx hb dX5_takesNeeds_118 (lv_at hl 0 rfl) ?_
            refine lv_iadd hx hb dX5_takesNeeds_120 ?_
            obtain ⟨h_11, hf⟩ := pgd hf
            refine va_iast hx hb hK hP hD hS 3 1 rfl rfl h_11 dX5_takesNeeds_121 (fun H locs hP hD hS => ?_)
            have hP : va_P (dC, dI) vwCl [(a_o, .inr (5, [.int o_thrown, .long o_trace, .ref a_o_text, .int o_typed, .int o_next, .int o_token, .int o_place, .int o_value, .int o_fault, .ref a_o_need, .ref a_o_made, .ref a_o_skillTold, .ref a_o_placeTold, .ref a_o_skips, .ref a_o_wheelTold, .int o_trades, .int o_people, .int o_draftTrades, .int o_draftPeople, .int o_isShut, .ref a_o_tunes, .ref a_o_s, .ref a_o_spare, .ref a_o_kept, .ref a_o_isKept, .ref a_o_makes, .ref a_o_works, .ref a_o_order, .int o_falling])), (a_o_need, .inl (cI, 12, .inl o_need)), (a_o_tunes, .inl (cI, 3, .inl o_tunes)), (a_o_s, .inl (cI, 105, .inl (upd (upd o_s ((2 : Int32) + l2).toNatClampNeg ((o_s ((2 : Int32) + l2).toNatClampNeg) - (o_need l2.toNatClampNeg))) ((8 : Int32) + l2).toNatClampNeg (((upd o_s ((2 : Int32) + l2).toNatClampNeg ((o_s ((2 : Int32) + l2).toNatClampNeg) - (o_need l2.toNatClampNeg))) ((8 : Int32) + l2).toNatClampNeg) + (0 : Int32)))))] H := hP
            have hD : va_D A [(a_o, .inr (5, [.int o_thrown, .long o_trace, .ref a_o_text, .int o_typed, .int o_next, .int o_token, .int o_place, .int o_value, .int o_fault, .ref a_o_need, .ref a_o_made, .ref a_o_skillTold, .ref a_o_placeTold, .ref a_o_skips, .ref a_o_wheelTold, .int o_trades, .int o_people, .int o_draftTrades, .int o_draftPeople, .int o_isShut, .ref a_o_tunes, .ref a_o_s, .ref a_o_spare, .ref a_o_kept, .ref a_o_isKept, .ref a_o_makes, .ref a_o_works, .ref a_o_order, .int o_falling])), (a_o_need, .inl (cI, 12, .inl o_need)), (a_o_tunes, .inl (cI, 3, .inl o_tunes)), (a_o_s, .inl (cI, 105, .inl (upd (upd o_s ((2 : Int32) + l2).toNatClampNeg ((o_s ((2 : Int32) + l2).toNatClampNeg) - (o_need l2.toNatClampNeg))) ((8 : Int32) + l2).toNatClampNeg (((upd o_s ((2 : Int32) + l2).toNatClampNeg ((o_s ((2 : Int32) + l2).toNatClampNeg) - (o_need l2.toNatClampNeg))) ((8 : Int32) + l2).toNatClampNeg) + (0 : Int32)))))] := hD
            refine lv_iload_n hx hb dX5_takesNeeds_122 rfl (lv_at hl 3 rfl) ?_
            refine lv_iload hx hb dX5_takesNeeds_123 (lv_at hl 0 rfl) ?_
            refine lv_iadd hx hb dX5_takesNeeds_125 ?_
            refine lv_istore_n (lv' := [(1, .int (l1 + (0 : Int32))), (4, .int (0 : Int32)), (3, .int (o_need l2.toNatClampNeg)), (0, .ref a_o), (2, .int l2)]) hx hb dX5_takesNeeds_126 rfl hl (by decide) rfl (fun ls hl => ?_)
            refine lv_iinc (v := (l2 + 1)) (lv' := [(2, .int (l2 + 1)), (1, .int (l1 + (0 : Int32))), (4, .int (0 : Int32)), (3, .int (o_need l2.toNatClampNeg)), (0, .ref a_o)]) hx hb dX5_takesNeeds_127 hl (k := 4) rfl rfl (by decide) rfl (fun ls hl => ?_)
            refine lv_goto (tgt := 4) hx hb dX5_takesNeeds_130 (by decide) ?_
            exact ih _ _ _ _ _ _ hf _ _ _ hP hD hS (lv_sub hl [4, 1, 0] rfl) kx
          · have hf := pif hf c_7
            refine lv_iconst (v := (0 : Int32)) hx hb dX5_takesNeeds_93 (by decide) ?_
            refine lv_goto (tgt := 107) hx hb dX5_takesNeeds_94 (by decide) ?_
            obtain ⟨h_12, hf⟩ := pgd hf
            refine va_iast hx hb hK hP hD hS 3 1 rfl rfl h_12 dX5_takesNeeds_107 (fun H locs hP hD hS => ?_)
            have hP : va_P (dC, dI) vwCl [(a_o, .inr (5, [.int o_thrown, .long o_trace, .ref a_o_text, .int o_typed, .int o_next, .int o_token, .int o_place, .int o_value, .int o_fault, .ref a_o_need, .ref a_o_made, .ref a_o_skillTold, .ref a_o_placeTold, .ref a_o_skips, .ref a_o_wheelTold, .int o_trades, .int o_people, .int o_draftTrades, .int o_draftPeople, .int o_isShut, .ref a_o_tunes, .ref a_o_s, .ref a_o_spare, .ref a_o_kept, .ref a_o_isKept, .ref a_o_makes, .ref a_o_works, .ref a_o_order, .int o_falling])), (a_o_need, .inl (cI, 12, .inl o_need)), (a_o_tunes, .inl (cI, 3, .inl o_tunes)), (a_o_s, .inl (cI, 105, .inl (upd o_s ((2 : Int32) + l2).toNatClampNeg (0 : Int32))))] H := hP
            have hD : va_D A [(a_o, .inr (5, [.int o_thrown, .long o_trace, .ref a_o_text, .int o_typed, .int o_next, .int o_token, .int o_place, .int o_value, .int o_fault, .ref a_o_need, .ref a_o_made, .ref a_o_skillTold, .ref a_o_placeTold, .ref a_o_skips, .ref a_o_wheelTold, .int o_trades, .int o_people, .int o_draftTrades, .int o_draftPeople, .int o_isShut, .ref a_o_tunes, .ref a_o_s, .ref a_o_spare, .ref a_o_kept, .ref a_o_isKept, .ref a_o_makes, .ref a_o_works, .ref a_o_order, .int o_falling])), (a_o_need, .inl (cI, 12, .inl o_need)), (a_o_tunes, .inl (cI, 3, .inl o_tunes)), (a_o_s, .inl (cI, 105, .inl (upd o_s ((2 : Int32) + l2).toNatClampNeg (0 : Int32))))] := hD
            refine lv_aload_n hx hb dX5_takesNeeds_108 rfl (lv_at hl 2 rfl) ?_
            refine va_get (D := (dC, dI)) (ci := 5) (v := .ref a_o_s) (C := RX5) (T := TX5) (N := 29) hx hb hts uX5_takesNeeds_X5 hown hK hP 0 rfl rfl 21 (by decide) (hts _ mX5_takesNeeds_1) (fun _ h9 => h9) rfl dX5_takesNeeds_109 ?_
            refine lv_bipush (v := (8 : Int32)) hx hb dX5_takesNeeds_112 (by decide) ?_
            refine lv_iload_n hx hb dX5_takesNeeds_114 rfl (lv_at hl 4 rfl) ?_
            refine lv_iadd hx hb dX5_takesNeeds_115 ?_
            refine lv_dup2_11 hx hb dX5_takesNeeds_116 rfl rfl ?_
            obtain ⟨h_13, hf⟩ := pgd hf
            refine va_iald hx hb hK hP 3 1 rfl rfl h_13 dX5_takesNeeds_117 ?_
            refine lv_iload hx hb dX5_takesNeeds_118 (lv_at hl 0 rfl) ?_
            refine lv_iadd hx hb dX5_takesNeeds_120 ?_
            obtain ⟨h_14, hf⟩ := pgd hf
            refine va_iast hx hb hK hP hD hS 3 1 rfl rfl h_14 dX5_takesNeeds_121 (fun H locs hP hD hS => ?_)
            have hP : va_P (dC, dI) vwCl [(a_o, .inr (5, [.int o_thrown, .long o_trace, .ref a_o_text, .int o_typed, .int o_next, .int o_token, .int o_place, .int o_value, .int o_fault, .ref a_o_need, .ref a_o_made, .ref a_o_skillTold, .ref a_o_placeTold, .ref a_o_skips, .ref a_o_wheelTold, .int o_trades, .int o_people, .int o_draftTrades, .int o_draftPeople, .int o_isShut, .ref a_o_tunes, .ref a_o_s, .ref a_o_spare, .ref a_o_kept, .ref a_o_isKept, .ref a_o_makes, .ref a_o_works, .ref a_o_order, .int o_falling])), (a_o_need, .inl (cI, 12, .inl o_need)), (a_o_tunes, .inl (cI, 3, .inl o_tunes)), (a_o_s, .inl (cI, 105, .inl (upd (upd o_s ((2 : Int32) + l2).toNatClampNeg (0 : Int32)) ((8 : Int32) + l2).toNatClampNeg (((upd o_s ((2 : Int32) + l2).toNatClampNeg (0 : Int32)) ((8 : Int32) + l2).toNatClampNeg) + (0 : Int32)))))] H := hP
            have hD : va_D A [(a_o, .inr (5, [.int o_thrown, .long o_trace, .ref a_o_text, .int o_typed, .int o_next, .int o_token, .int o_place, .int o_value, .int o_fault, .ref a_o_need, .ref a_o_made, .ref a_o_skillTold, .ref a_o_placeTold, .ref a_o_skips, .ref a_o_wheelTold, .int o_trades, .int o_people, .int o_draftTrades, .int o_draftPeople, .int o_isShut, .ref a_o_tunes, .ref a_o_s, .ref a_o_spare, .ref a_o_kept, .ref a_o_isKept, .ref a_o_makes, .ref a_o_works, .ref a_o_order, .int o_falling])), (a_o_need, .inl (cI, 12, .inl o_need)), (a_o_tunes, .inl (cI, 3, .inl o_tunes)), (a_o_s, .inl (cI, 105, .inl (upd (upd o_s ((2 : Int32) + l2).toNatClampNeg (0 : Int32)) ((8 : Int32) + l2).toNatClampNeg (((upd o_s ((2 : Int32) + l2).toNatClampNeg (0 : Int32)) ((8 : Int32) + l2).toNatClampNeg) + (0 : Int32)))))] := hD
            refine lv_iload_n hx hb dX5_takesNeeds_122 rfl (lv_at hl 3 rfl) ?_
            refine lv_iload hx hb dX5_takesNeeds_123 (lv_at hl 0 rfl) ?_
            refine lv_iadd hx hb dX5_takesNeeds_125 ?_
            refine lv_istore_n (lv' := [(1, .int (l1 + (0 : Int32))), (4, .int (0 : Int32)), (3, .int (o_need l2.toNatClampNeg)), (0, .ref a_o), (2, .int l2)]) hx hb dX5_takesNeeds_126 rfl hl (by decide) rfl (fun ls hl => ?_)
            refine lv_iinc (v := (l2 + 1)) (lv' := [(2, .int (l2 + 1)), (1, .int (l1 + (0 : Int32))), (4, .int (0 : Int32)), (3, .int (o_need l2.toNatClampNeg)), (0, .ref a_o)]) hx hb dX5_takesNeeds_127 hl (k := 4) rfl rfl (by decide) rfl (fun ls hl => ?_)
            refine lv_goto (tgt := 4) hx hb dX5_takesNeeds_130 (by decide) ?_
            exact ih _ _ _ _ _ _ hf _ _ _ hP hD hS (lv_sub hl [4, 1, 0] rfl) kx
        · have hf := pif hf c_6
          refine lv_iload_n hx hb dX5_takesNeeds_65 rfl (lv_at hl 0 rfl) ?_
          refine lv_aload_n hx hb dX5_takesNeeds_66 rfl (lv_at hl 1 rfl) ?_
          refine va_get (D := (dC, dI)) (ci := 5) (v := .ref a_o_s) (C := RX5) (T := TX5) (N := 29) hx hb hts uX5_takesNeeds_X5 hown hK hP 0 rfl rfl 21 (by decide) (hts _ mX5_takesNeeds_1) (fun _ h9 => h9) rfl dX5_takesNeeds_67 ?_
          refine lv_iconst (v := (2 : Int32)) hx hb dX5_takesNeeds_70 (by decide) ?_
          refine lv_iload_n hx hb dX5_takesNeeds_71 rfl (lv_at hl 3 rfl) ?_
          refine lv_iadd hx hb dX5_takesNeeds_72 ?_
          obtain ⟨h_15, hf⟩ := pgd hf
          refine va_iald hx hb hK hP 3 1 rfl rfl h_15 dX5_takesNeeds_73 ?_
          refine lv_isub hx hb dX5_takesNeeds_74 ?_
          refine lv_goto (tgt := 79) hx hb dX5_takesNeeds_75 (by decide) ?_
          refine lv_istore (lv' := [(4, .int ((o_need l2.toNatClampNeg) - (o_s ((2 : Int32) + l2).toNatClampNeg))), (3, .int (o_need l2.toNatClampNeg)), (0, .ref a_o), (1, .int l1), (2, .int l2)]) hx hb dX5_takesNeeds_79 hl (by decide) rfl (fun ls hl => ?_)
          refine lv_aload_n hx hb dX5_takesNeeds_81 rfl (lv_at hl 2 rfl) ?_
          refine va_get (D := (dC, dI)) (ci := 5) (v := .ref a_o_s) (C := RX5) (T := TX5) (N := 29) hx hb hts uX5_takesNeeds_X5 hown hK hP 0 rfl rfl 21 (by decide) (hts _ mX5_takesNeeds_1) (fun _ h9 => h9) rfl dX5_takesNeeds_82 ?_
          refine lv_iconst (v := (2 : Int32)) hx hb dX5_takesNeeds_85 (by decide) ?_
          refine lv_iload_n hx hb dX5_takesNeeds_86 rfl (lv_at hl 4 rfl) ?_
          refine lv_iadd hx hb dX5_takesNeeds_87 ?_
          refine lv_iload hx hb dX5_takesNeeds_88 (lv_at hl 0 rfl) ?_
          refine lv_if_le (tgt := 97) hx hb dX5_takesNeeds_90 (by decide) (fun c_16 => ?_) (fun c_16 => ?_)
          · have hf := pit hf c_16
            refine lv_aload_n hx hb dX5_takesNeeds_97 rfl (lv_at hl 2 rfl) ?_
            refine va_get (D := (dC, dI)) (ci := 5) (v := .ref a_o_s) (C := RX5) (T := TX5) (N := 29) hx hb hts uX5_takesNeeds_X5 hown hK hP 0 rfl rfl 21 (by decide) (hts _ mX5_takesNeeds_1) (fun _ h9 => h9) rfl dX5_takesNeeds_98 ?_
            refine lv_iconst (v := (2 : Int32)) hx hb dX5_takesNeeds_101 (by decide) ?_
            refine lv_iload_n hx hb dX5_takesNeeds_102 rfl (lv_at hl 4 rfl) ?_
            refine lv_iadd hx hb dX5_takesNeeds_103 ?_
            obtain ⟨h_17, hf⟩ := pgd hf
            refine va_iald hx hb hK hP 3 1 rfl rfl h_17 dX5_takesNeeds_104 ?_
            refine lv_iload_n hx hb dX5_takesNeeds_105 rfl (lv_at hl 1 rfl) ?_
            refine lv_isub hx hb dX5_takesNeeds_106 ?_
            obtain ⟨h_18, hf⟩ := pgd hf
            refine va_iast hx hb hK hP hD hS 3 1 rfl rfl h_18 dX5_takesNeeds_107 (fun H locs hP hD hS => ?_)
            have hP : va_P (dC, dI) vwCl [(a_o, .inr (5, [.int o_thrown, .long o_trace, .ref a_o_text, .int o_typed, .int o_next, .int o_token, .int o_place, .int o_value, .int o_fault, .ref a_o_need, .ref a_o_made, .ref a_o_skillTold, .ref a_o_placeTold, .ref a_o_skips, .ref a_o_wheelTold, .int o_trades, .int o_people, .int o_draftTrades, .int o_draftPeople, .int o_isShut, .ref a_o_tunes, .ref a_o_s, .ref a_o_spare, .ref a_o_kept, .ref a_o_isKept, .ref a_o_makes, .ref a_o_works, .ref a_o_order, .int o_falling])), (a_o_need, .inl (cI, 12, .inl o_need)), (a_o_tunes, .inl (cI, 3, .inl o_tunes)), (a_o_s, .inl (cI, 105, .inl (upd o_s ((2 : Int32) + l2).toNatClampNeg ((o_s ((2 : Int32) + l2).toNatClampNeg) - (o_need l2.toNatClampNeg)))))] H := hP
            have hD : va_D A [(a_o, .inr (5, [.int o_thrown, .long o_trace, .ref a_o_text, .int o_typed, .int o_next, .int o_token, .int o_place, .int o_value, .int o_fault, .ref a_o_need, .ref a_o_made, .ref a_o_skillTold, .ref a_o_placeTold, .ref a_o_skips, .ref a_o_wheelTold, .int o_trades, .int o_people, .int o_draftTrades, .int o_draftPeople, .int o_isShut, .ref a_o_tunes, .ref a_o_s, .ref a_o_spare, .ref a_o_kept, .ref a_o_isKept, .ref a_o_makes, .ref a_o_works, .ref a_o_order, .int o_falling])), (a_o_need, .inl (cI, 12, .inl o_need)), (a_o_tunes, .inl (cI, 3, .inl o_tunes)), (a_o_s, .inl (cI, 105, .inl (upd o_s ((2 : Int32) + l2).toNatClampNeg ((o_s ((2 : Int32) + l2).toNatClampNeg) - (o_need l2.toNatClampNeg)))))] := hD
            refine lv_aload_n hx hb dX5_takesNeeds_108 rfl (lv_at hl 2 rfl) ?_
            refine va_get (D := (dC, dI)) (ci := 5) (v := .ref a_o_s) (C := RX5) (T := TX5) (N := 29) hx hb hts uX5_takesNeeds_X5 hown hK hP 0 rfl rfl 21 (by decide) (hts _ mX5_takesNeeds_1) (fun _ h9 => h9) rfl dX5_takesNeeds_109 ?_
            refine lv_bipush (v := (8 : Int32)) hx hb dX5_takesNeeds_112 (by decide) ?_
            refine lv_iload_n hx hb dX5_takesNeeds_114 rfl (lv_at hl 4 rfl) ?_
            refine lv_iadd hx hb dX5_takesNeeds_115 ?_
            refine lv_dup2_11 hx hb dX5_takesNeeds_116 rfl rfl ?_
            obtain ⟨h_19, hf⟩ := pgd hf
            refine va_iald hx hb hK hP 3 1 rfl rfl h_19 dX5_takesNeeds_117 ?_
            refine lv_iload hx hb dX5_takesNeeds_118 (lv_at hl 0 rfl) ?_
            refine lv_iadd hx hb dX5_takesNeeds_120 ?_
            obtain ⟨h_20, hf⟩ := pgd hf
            refine va_iast hx hb hK hP hD hS 3 1 rfl rfl h_20 dX5_takesNeeds_121 (fun H locs hP hD hS => ?_)
            have hP : va_P (dC, dI) vwCl [(a_o, .inr (5, [.int o_thrown, .long o_trace, .ref a_o_text, .int o_typed, .int o_next, .int o_token, .int o_place, .int o_value, .int o_fault, .ref a_o_need, .ref a_o_made, .ref a_o_skillTold, .ref a_o_placeTold, .ref a_o_skips, .ref a_o_wheelTold, .int o_trades, .int o_people, .int o_draftTrades, .int o_draftPeople, .int o_isShut, .ref a_o_tunes, .ref a_o_s, .ref a_o_spare, .ref a_o_kept, .ref a_o_isKept, .ref a_o_makes, .ref a_o_works, .ref a_o_order, .int o_falling])), (a_o_need, .inl (cI, 12, .inl o_need)), (a_o_tunes, .inl (cI, 3, .inl o_tunes)), (a_o_s, .inl (cI, 105, .inl (upd (upd o_s ((2 : Int32) + l2).toNatClampNeg ((o_s ((2 : Int32) + l2).toNatClampNeg) - (o_need l2.toNatClampNeg))) ((8 : Int32) + l2).toNatClampNeg (((upd o_s ((2 : Int32) + l2).toNatClampNeg ((o_s ((2 : Int32) + l2).toNatClampNeg) - (o_need l2.toNatClampNeg))) ((8 : Int32) + l2).toNatClampNeg) + ((o_need l2.toNatClampNeg) - (o_s ((2 : Int32) + l2).toNatClampNeg))))))] H := hP
            have hD : va_D A [(a_o, .inr (5, [.int o_thrown, .long o_trace, .ref a_o_text, .int o_typed, .int o_next, .int o_token, .int o_place, .int o_value, .int o_fault, .ref a_o_need, .ref a_o_made, .ref a_o_skillTold, .ref a_o_placeTold, .ref a_o_skips, .ref a_o_wheelTold, .int o_trades, .int o_people, .int o_draftTrades, .int o_draftPeople, .int o_isShut, .ref a_o_tunes, .ref a_o_s, .ref a_o_spare, .ref a_o_kept, .ref a_o_isKept, .ref a_o_makes, .ref a_o_works, .ref a_o_order, .int o_falling])), (a_o_need, .inl (cI, 12, .inl o_need)), (a_o_tunes, .inl (cI, 3, .inl o_tunes)), (a_o_s, .inl (cI, 105, .inl (upd (upd o_s ((2 : Int32) + l2).toNatClampNeg ((o_s ((2 : Int32) + l2).toNatClampNeg) - (o_need l2.toNatClampNeg))) ((8 : Int32) + l2).toNatClampNeg (((upd o_s ((2 : Int32) + l2).toNatClampNeg ((o_s ((2 : Int32) + l2).toNatClampNeg) - (o_need l2.toNatClampNeg))) ((8 : Int32) + l2).toNatClampNeg) + ((o_need l2.toNatClampNeg) - (o_s ((2 : Int32) + l2).toNatClampNeg))))))] := hD
            refine lv_iload_n hx hb dX5_takesNeeds_122 rfl (lv_at hl 3 rfl) ?_
            refine lv_iload hx hb dX5_takesNeeds_123 (lv_at hl 0 rfl) ?_
            refine lv_iadd hx hb dX5_takesNeeds_125 ?_
            refine lv_istore_n (lv' := [(1, .int (l1 + ((o_need l2.toNatClampNeg) - (o_s ((2 : Int32) + l2).toNatClampNeg)))), (4, .int ((o_need l2.toNatClampNeg) - (o_s ((2 : Int32) + l2).toNatClampNeg))), (3, .int (o_need l2.toNatClampNeg)), (0, .ref a_o), (2, .int l2)]) hx hb dX5_takesNeeds_126 rfl hl (by decide) rfl (fun ls hl => ?_)
            refine lv_iinc (v := (l2 + 1)) (lv' := [(2, .int (l2 + 1)), (1, .int (l1 + ((o_need l2.toNatClampNeg) - (o_s ((2 : Int32) + l2).toNatClampNeg)))), (4, .int ((o_need l2.toNatClampNeg) - (o_s ((2 : Int32) + l2).toNatClampNeg))), (3, .int (o_need l2.toNatClampNeg)), (0, .ref a_o)]) hx hb dX5_takesNeeds_127 hl (k := 4) rfl rfl (by decide) rfl (fun ls hl => ?_)
            refine lv_goto (tgt := 4) hx hb dX5_takesNeeds_130 (by decide) ?_
            exact ih _ _ _ _ _ _ hf _ _ _ hP hD hS (lv_sub hl [4, 1, 0] rfl) kx
          · have hf := pif hf c_16
            refine lv_iconst (v := (0 : Int32)) hx hb dX5_takesNeeds_93 (by decide) ?_
            refine lv_goto (tgt := 107) hx hb dX5_takesNeeds_94 (by decide) ?_
            obtain ⟨h_21, hf⟩ := pgd hf
            refine va_iast hx hb hK hP hD hS 3 1 rfl rfl h_21 dX5_takesNeeds_107 (fun H locs hP hD hS => ?_)
            have hP : va_P (dC, dI) vwCl [(a_o, .inr (5, [.int o_thrown, .long o_trace, .ref a_o_text, .int o_typed, .int o_next, .int o_token, .int o_place, .int o_value, .int o_fault, .ref a_o_need, .ref a_o_made, .ref a_o_skillTold, .ref a_o_placeTold, .ref a_o_skips, .ref a_o_wheelTold, .int o_trades, .int o_people, .int o_draftTrades, .int o_draftPeople, .int o_isShut, .ref a_o_tunes, .ref a_o_s, .ref a_o_spare, .ref a_o_kept, .ref a_o_isKept, .ref a_o_makes, .ref a_o_works, .ref a_o_order, .int o_falling])), (a_o_need, .inl (cI, 12, .inl o_need)), (a_o_tunes, .inl (cI, 3, .inl o_tunes)), (a_o_s, .inl (cI, 105, .inl (upd o_s ((2 : Int32) + l2).toNatClampNeg (0 : Int32))))] H := hP
            have hD : va_D A [(a_o, .inr (5, [.int o_thrown, .long o_trace, .ref a_o_text, .int o_typed, .int o_next, .int o_token, .int o_place, .int o_value, .int o_fault, .ref a_o_need, .ref a_o_made, .ref a_o_skillTold, .ref a_o_placeTold, .ref a_o_skips, .ref a_o_wheelTold, .int o_trades, .int o_people, .int o_draftTrades, .int o_draftPeople, .int o_isShut, .ref a_o_tunes, .ref a_o_s, .ref a_o_spare, .ref a_o_kept, .ref a_o_isKept, .ref a_o_makes, .ref a_o_works, .ref a_o_order, .int o_falling])), (a_o_need, .inl (cI, 12, .inl o_need)), (a_o_tunes, .inl (cI, 3, .inl o_tunes)), (a_o_s, .inl (cI, 105, .inl (upd o_s ((2 : Int32) + l2).toNatClampNeg (0 : Int32))))] := hD
            refine lv_aload_n hx hb dX5_takesNeeds_108 rfl (lv_at hl 2 rfl) ?_
            refine va_get (D := (dC, dI)) (ci := 5) (v := .ref a_o_s) (C := RX5) (T := TX5) (N := 29) hx hb hts uX5_takesNeeds_X5 hown hK hP 0 rfl rfl 21 (by decide) (hts _ mX5_takesNeeds_1) (fun _ h9 => h9) rfl dX5_takesNeeds_109 ?_
            refine lv_bipush (v := (8 : Int32)) hx hb dX5_takesNeeds_112 (by decide) ?_
            refine lv_iload_n hx hb dX5_takesNeeds_114 rfl (lv_at hl 4 rfl) ?_
            refine lv_iadd hx hb dX5_takesNeeds_115 ?_
            refine lv_dup2_11 hx hb dX5_takesNeeds_116 rfl rfl ?_
            obtain ⟨h_22, hf⟩ := pgd hf
            refine va_iald hx hb hK hP 3 1 rfl rfl h_22 dX5_takesNeeds_117 ?_
            refine lv_iload hx hb dX5_takesNeeds_118 (lv_at hl 0 rfl) ?_
            refine lv_iadd hx hb dX5_takesNeeds_120 ?_
            obtain ⟨h_23, hf⟩ := pgd hf
            refine va_iast hx hb hK hP hD hS 3 1 rfl rfl h_23 dX5_takesNeeds_121 (fun H locs hP hD hS => ?_)
            have hP : va_P (dC, dI) vwCl [(a_o, .inr (5, [.int o_thrown, .long o_trace, .ref a_o_text, .int o_typed, .int o_next, .int o_token, .int o_place, .int o_value, .int o_fault, .ref a_o_need, .ref a_o_made, .ref a_o_skillTold, .ref a_o_placeTold, .ref a_o_skips, .ref a_o_wheelTold, .int o_trades, .int o_people, .int o_draftTrades, .int o_draftPeople, .int o_isShut, .ref a_o_tunes, .ref a_o_s, .ref a_o_spare, .ref a_o_kept, .ref a_o_isKept, .ref a_o_makes, .ref a_o_works, .ref a_o_order, .int o_falling])), (a_o_need, .inl (cI, 12, .inl o_need)), (a_o_tunes, .inl (cI, 3, .inl o_tunes)), (a_o_s, .inl (cI, 105, .inl (upd (upd o_s ((2 : Int32) + l2).toNatClampNeg (0 : Int32)) ((8 : Int32) + l2).toNatClampNeg (((upd o_s ((2 : Int32) + l2).toNatClampNeg (0 : Int32)) ((8 : Int32) + l2).toNatClampNeg) + ((o_need l2.toNatClampNeg) - (o_s ((2 : Int32) + l2).toNatClampNeg))))))] H := hP
            have hD : va_D A [(a_o, .inr (5, [.int o_thrown, .long o_trace, .ref a_o_text, .int o_typed, .int o_next, .int o_token, .int o_place, .int o_value, .int o_fault, .ref a_o_need, .ref a_o_made, .ref a_o_skillTold, .ref a_o_placeTold, .ref a_o_skips, .ref a_o_wheelTold, .int o_trades, .int o_people, .int o_draftTrades, .int o_draftPeople, .int o_isShut, .ref a_o_tunes, .ref a_o_s, .ref a_o_spare, .ref a_o_kept, .ref a_o_isKept, .ref a_o_makes, .ref a_o_works, .ref a_o_order, .int o_falling])), (a_o_need, .inl (cI, 12, .inl o_need)), (a_o_tunes, .inl (cI, 3, .inl o_tunes)), (a_o_s, .inl (cI, 105, .inl (upd (upd o_s ((2 : Int32) + l2).toNatClampNeg (0 : Int32)) ((8 : Int32) + l2).toNatClampNeg (((upd o_s ((2 : Int32) + l2).toNatClampNeg (0 : Int32)) ((8 : Int32) + l2).toNatClampNeg) + ((o_need l2.toNatClampNeg) - (o_s ((2 : Int32) + l2).toNatClampNeg))))))] := hD
            refine lv_iload_n hx hb dX5_takesNeeds_122 rfl (lv_at hl 3 rfl) ?_
            refine lv_iload hx hb dX5_takesNeeds_123 (lv_at hl 0 rfl) ?_
            refine lv_iadd hx hb dX5_takesNeeds_125 ?_
            refine lv_istore_n (lv' := [(1, .int (l1 + ((o_need l2.toNatClampNeg) - (o_s ((2 : Int32) + l2).toNatClampNeg)))), (4, .int ((o_need l2.toNatClampNeg) - (o_s ((2 : Int32) + l2).toNatClampNeg))), (3, .int (o_need l2.toNatClampNeg)), (0, .ref a_o), (2, .int l2)]) hx hb dX5_takesNeeds_126 rfl hl (by decide) rfl (fun ls hl => ?_)
            refine lv_iinc (v := (l2 + 1)) (lv' := [(2, .int (l2 + 1)), (1, .int (l1 + ((o_need l2.toNatClampNeg) - (o_s ((2 : Int32) + l2).toNatClampNeg)))), (4, .int ((o_need l2.toNatClampNeg) - (o_s ((2 : Int32) + l2).toNatClampNeg))), (3, .int (o_need l2.toNatClampNeg)), (0, .ref a_o)]) hx hb dX5_takesNeeds_127 hl (k := 4) rfl rfl (by decide) rfl (fun ls hl => ?_)
            refine lv_goto (tgt := 4) hx hb dX5_takesNeeds_130 (by decide) ?_
            exact ih _ _ _ _ _ _ hf _ _ _ hP hD hS (lv_sub hl [4, 1, 0] rfl) kx
      · have hf := pit hf c_3
        refine lv_aload_n hx hb dX5_takesNeeds_24 rfl (lv_at hl 0 rfl) ?_
        refine va_get (D := (dC, dI)) (ci := 5) (v := .ref a_o_need) (C := RX5) (T := TX5) (N := 29) hx hb hts uX5_takesNeeds_X5 hown hK hP 0 rfl rfl 9 (by decide) (hts _ mX5_takesNeeds_2) (fun _ h9 => h9) rfl dX5_takesNeeds_25 ?_
        refine lv_iload_n hx hb dX5_takesNeeds_28 rfl (lv_at hl 2 rfl) ?_
        obtain ⟨h_24, hf⟩ := pgd hf
        refine va_iald hx hb hK hP 1 1 rfl rfl h_24 dX5_takesNeeds_29 ?_
        refine lv_bipush (v := (10 : Int32)) hx hb dX5_takesNeeds_30 (by decide) ?_
        refine lv_aload_n hx hb dX5_takesNeeds_32 rfl (lv_at hl 0 rfl) ?_
        refine va_get (D := (dC, dI)) (ci := 5) (v := .ref a_o_tunes) (C := RX5) (T := TX5) (N := 29) hx hb hts uX5_takesNeeds_X5 hown hK hP 0 rfl rfl 20 (by decide) (hts _ mX5_takesNeeds_3) (fun _ h9 => h9) rfl dX5_takesNeeds_33 ?_
        refine lv_iconst (v := (1 : Int32)) hx hb dX5_takesNeeds_36 (by decide) ?_
        obtain ⟨h_25, hf⟩ := pgd hf
        refine va_iald hx hb hK hP 2 1 rfl rfl h_25 dX5_takesNeeds_37 ?_
        refine lv_iadd hx hb dX5_takesNeeds_38 ?_
        refine lv_imul hx hb dX5_takesNeeds_39 ?_
        refine lv_bipush (v := (10 : Int32)) hx hb dX5_takesNeeds_40 (by decide) ?_
        refine lv_idiv hx hb dX5_takesNeeds_42 (by decide) ?_
        refine lv_goto (tgt := 52) hx hb dX5_takesNeeds_43 (by decide) ?_
        refine lv_istore_n (lv' := [(3, .int (((o_need l2.toNatClampNeg) * ((10 : Int32) + (o_tunes (1 : Int32).toNatClampNeg))) / (10 : Int32))), (0, .ref a_o), (1, .int l1), (2, .int l2)]) hx hb dX5_takesNeeds_52 rfl hl (by decide) rfl (fun ls hl => ?_)
        refine lv_iload_n hx hb dX5_takesNeeds_53 rfl (lv_at hl 0 rfl) ?_
        refine lv_aload_n hx hb dX5_takesNeeds_54 rfl (lv_at hl 1 rfl) ?_
        refine va_get (D := (dC, dI)) (ci := 5) (v := .ref a_o_s) (C := RX5) (T := TX5) (N := 29) hx hb hts uX5_takesNeeds_X5 hown hK hP 0 rfl rfl 21 (by decide) (hts _ mX5_takesNeeds_1) (fun _ h9 => h9) rfl dX5_takesNeeds_55 ?_
        refine lv_iconst (v := (2 : Int32)) hx hb dX5_takesNeeds_58 (by decide) ?_
        refine lv_iload_n hx hb dX5_takesNeeds_59 rfl (lv_at hl 3 rfl) ?_
        refine lv_iadd hx hb dX5_takesNeeds_60 ?_
        obtain ⟨h_26, hf⟩ := pgd hf
        refine va_iald hx hb hK hP 3 1 rfl rfl h_26 dX5_takesNeeds_61 ?_
        refine lv_icmp_le (tgt := 78) hx hb dX5_takesNeeds_62 (by decide) (fun c_27 => ?_) (fun c_27 => ?_)
        · have hf := pit hf c_27
          refine lv_iconst (v := (0 : Int32)) hx hb dX5_takesNeeds_78 (by decide) ?_
          refine lv_istore (lv' := [(4, .int (0 : Int32)), (3, .int (((o_need l2.toNatClampNeg) * ((10 : Int32) + (o_tunes (1 : Int32).toNatClampNeg))) / (10 : Int32))), (0, .ref a_o), (1, .int l1), (2, .int l2)]) hx hb dX5_takesNeeds_79 hl (by decide) rfl (fun ls hl => ?_)
          refine lv_aload_n hx hb dX5_takesNeeds_81 rfl (lv_at hl 2 rfl) ?_
          refine va_get (D := (dC, dI)) (ci := 5) (v := .ref a_o_s) (C := RX5) (T := TX5) (N := 29) hx hb hts uX5_takesNeeds_X5 hown hK hP 0 rfl rfl 21 (by decide) (hts _ mX5_takesNeeds_1) (fun _ h9 => h9) rfl dX5_takesNeeds_82 ?_
          refine lv_iconst (v := (2 : Int32)) hx hb dX5_takesNeeds_85 (by decide) ?_
          refine lv_iload_n hx hb dX5_takesNeeds_86 rfl (lv_at hl 4 rfl) ?_
          refine lv_iadd hx hb dX5_takesNeeds_87 ?_
          refine lv_iload hx hb dX5_takesNeeds_88 (lv_at hl 0 rfl) ?_
          refine lv_if_le (tgt := 97) hx hb dX5_takesNeeds_90 (by decide) (fun c_28 => ?_) (fun c_28 => ?_)
          · have hf := pit hf c_28
            refine lv_aload_n hx hb dX5_takesNeeds_97 rfl (lv_at hl 2 rfl) ?_
            refine va_get (D := (dC, dI)) (ci := 5) (v := .ref a_o_s) (C := RX5) (T := TX5) (N := 29) hx hb hts uX5_takesNeeds_X5 hown hK hP 0 rfl rfl 21 (by decide) (hts _ mX5_takesNeeds_1) (fun _ h9 => h9) rfl dX5_takesNeeds_98 ?_
            refine lv_iconst (v := (2 : Int32)) hx hb dX5_takesNeeds_101 (by decide) ?_
            refine lv_iload_n hx hb dX5_takesNeeds_102 rfl (lv_at hl 4 rfl) ?_
            refine lv_iadd hx hb dX5_takesNeeds_103 ?_
            obtain ⟨h_29, hf⟩ := pgd hf
            refine va_iald hx hb hK hP 3 1 rfl rfl h_29 dX5_takesNeeds_104 ?_
            refine lv_iload_n hx hb dX5_takesNeeds_105 rfl (lv_at hl 1 rfl) ?_
            refine lv_isub hx hb dX5_takesNeeds_106 ?_
            obtain ⟨h_30, hf⟩ := pgd hf
            refine va_iast hx hb hK hP hD hS 3 1 rfl rfl h_30 dX5_takesNeeds_107 (fun H locs hP hD hS => ?_)
            have hP : va_P (dC, dI) vwCl [(a_o, .inr (5, [.int o_thrown, .long o_trace, .ref a_o_text, .int o_typed, .int o_next, .int o_token, .int o_place, .int o_value, .int o_fault, .ref a_o_need, .ref a_o_made, .ref a_o_skillTold, .ref a_o_placeTold, .ref a_o_skips, .ref a_o_wheelTold, .int o_trades, .int o_people, .int o_draftTrades, .int o_draftPeople, .int o_isShut, .ref a_o_tunes, .ref a_o_s, .ref a_o_spare, .ref a_o_kept, .ref a_o_isKept, .ref a_o_makes, .ref a_o_works, .ref a_o_order, .int o_falling])), (a_o_need, .inl (cI, 12, .inl o_need)), (a_o_tunes, .inl (cI, 3, .inl o_tunes)), (a_o_s, .inl (cI, 105, .inl (upd o_s ((2 : Int32) + l2).toNatClampNeg ((o_s ((2 : Int32) + l2).toNatClampNeg) - (((o_need l2.toNatClampNeg) * ((10 : Int32) + (o_tunes (1 : Int32).toNatClampNeg))) / (10 : Int32))))))] H := hP
            have hD : va_D A [(a_o, .inr (5, [.int o_thrown, .long o_trace, .ref a_o_text, .int o_typed, .int o_next, .int o_token, .int o_place, .int o_value, .int o_fault, .ref a_o_need, .ref a_o_made, .ref a_o_skillTold, .ref a_o_placeTold, .ref a_o_skips, .ref a_o_wheelTold, .int o_trades, .int o_people, .int o_draftTrades, .int o_draftPeople, .int o_isShut, .ref a_o_tunes, .ref a_o_s, .ref a_o_spare, .ref a_o_kept, .ref a_o_isKept, .ref a_o_makes, .ref a_o_works, .ref a_o_order, .int o_falling])), (a_o_need, .inl (cI, 12, .inl o_need)), (a_o_tunes, .inl (cI, 3, .inl o_tunes)), (a_o_s, .inl (cI, 105, .inl (upd o_s ((2 : Int32) + l2).toNatClampNeg ((o_s ((2 : Int32) + l2).toNatClampNeg) - (((o_need l2.toNatClampNeg) * ((10 : Int32) + (o_tunes (1 : Int32).toNatClampNeg))) / (10 : Int32))))))] := hD
            refine lv_aload_n hx hb dX5_takesNeeds_108 rfl (lv_at hl 2 rfl) ?_
            refine va_get (D := (dC, dI)) (ci := 5) (v := .ref a_o_s) (C := RX5) (T := TX5) (N := 29) hx hb hts uX5_takesNeeds_X5 hown hK hP 0 rfl rfl 21 (by decide) (hts _ mX5_takesNeeds_1) (fun _ h9 => h9) rfl dX5_takesNeeds_109 ?_
            refine lv_bipush (v := (8 : Int32)) hx hb dX5_takesNeeds_112 (by decide) ?_
            refine lv_iload_n hx hb dX5_takesNeeds_114 rfl (lv_at hl 4 rfl) ?_
            refine lv_iadd hx hb dX5_takesNeeds_115 ?_
            refine lv_dup2_11 hx hb dX5_takesNeeds_116 rfl rfl ?_
            obtain ⟨h_31, hf⟩ := pgd hf
            refine va_iald hx hb hK hP 3 1 rfl rfl h_31 dX5_takesNeeds_117 ?_
            refine lv_iload hx hb dX5_takesNeeds_118 (lv_at hl 0 rfl) ?_
            refine lv_iadd hx hb dX5_takesNeeds_120 ?_
            obtain ⟨h_32, hf⟩ := pgd hf
            refine va_iast hx hb hK hP hD hS 3 1 rfl rfl h_32 dX5_takesNeeds_121 (fun H locs hP hD hS => ?_)
            have hP : va_P (dC, dI) vwCl [(a_o, .inr (5, [.int o_thrown, .long o_trace, .ref a_o_text, .int o_typed, .int o_next, .int o_token, .int o_place, .int o_value, .int o_fault, .ref a_o_need, .ref a_o_made, .ref a_o_skillTold, .ref a_o_placeTold, .ref a_o_skips, .ref a_o_wheelTold, .int o_trades, .int o_people, .int o_draftTrades, .int o_draftPeople, .int o_isShut, .ref a_o_tunes, .ref a_o_s, .ref a_o_spare, .ref a_o_kept, .ref a_o_isKept, .ref a_o_makes, .ref a_o_works, .ref a_o_order, .int o_falling])), (a_o_need, .inl (cI, 12, .inl o_need)), (a_o_tunes, .inl (cI, 3, .inl o_tunes)), (a_o_s, .inl (cI, 105, .inl (upd (upd o_s ((2 : Int32) + l2).toNatClampNeg ((o_s ((2 : Int32) + l2).toNatClampNeg) - (((o_need l2.toNatClampNeg) * ((10 : Int32) + (o_tunes (1 : Int32).toNatClampNeg))) / (10 : Int32)))) ((8 : Int32) + l2).toNatClampNeg (((upd o_s ((2 : Int32) + l2).toNatClampNeg ((o_s ((2 : Int32) + l2).toNatClampNeg) - (((o_need l2.toNatClampNeg) * ((10 : Int32) + (o_tunes (1 : Int32).toNatClampNeg))) / (10 : Int32)))) ((8 : Int32) + l2).toNatClampNeg) + (0 : Int32)))))] H := hP
            have hD : va_D A [(a_o, .inr (5, [.int o_thrown, .long o_trace, .ref a_o_text, .int o_typed, .int o_next, .int o_token, .int o_place, .int o_value, .int o_fault, .ref a_o_need, .ref a_o_made, .ref a_o_skillTold, .ref a_o_placeTold, .ref a_o_skips, .ref a_o_wheelTold, .int o_trades, .int o_people, .int o_draftTrades, .int o_draftPeople, .int o_isShut, .ref a_o_tunes, .ref a_o_s, .ref a_o_spare, .ref a_o_kept, .ref a_o_isKept, .ref a_o_makes, .ref a_o_works, .ref a_o_order, .int o_falling])), (a_o_need, .inl (cI, 12, .inl o_need)), (a_o_tunes, .inl (cI, 3, .inl o_tunes)), (a_o_s, .inl (cI, 105, .inl (upd (upd o_s ((2 : Int32) + l2).toNatClampNeg ((o_s ((2 : Int32) + l2).toNatClampNeg) - (((o_need l2.toNatClampNeg) * ((10 : Int32) + (o_tunes (1 : Int32).toNatClampNeg))) / (10 : Int32)))) ((8 : Int32) + l2).toNatClampNeg (((upd o_s ((2 : Int32) + l2).toNatClampNeg ((o_s ((2 : Int32) + l2).toNatClampNeg) - (((o_need l2.toNatClampNeg) * ((10 : Int32) + (o_tunes (1 : Int32).toNatClampNeg))) / (10 : Int32)))) ((8 : Int32) + l2).toNatClampNeg) + (0 : Int32)))))] := hD
            refine lv_iload_n hx hb dX5_takesNeeds_122 rfl (lv_at hl 3 rfl) ?_
            refine lv_iload hx hb dX5_takesNeeds_123 (lv_at hl 0 rfl) ?_
            refine lv_iadd hx hb dX5_takesNeeds_125 ?_
            refine lv_istore_n (lv' := [(1, .int (l1 + (0 : Int32))), (4, .int (0 : Int32)), (3, .int (((o_need l2.toNatClampNeg) * ((10 : Int32) + (o_tunes (1 : Int32).toNatClampNeg))) / (10 : Int32))), (0, .ref a_o), (2, .int l2)]) hx hb dX5_takesNeeds_126 rfl hl (by decide) rfl (fun ls hl => ?_)
            refine lv_iinc (v := (l2 + 1)) (lv' := [(2, .int (l2 + 1)), (1, .int (l1 + (0 : Int32))), (4, .int (0 : Int32)), (3, .int (((o_need l2.toNatClampNeg) * ((10 : Int32) + (o_tunes (1 : Int32).toNatClampNeg))) / (10 : Int32))), (0, .ref a_o)]) hx hb dX5_takesNeeds_127 hl (k := 4) rfl rfl (by decide) rfl (fun ls hl => ?_)
            refine lv_goto (tgt := 4) hx hb dX5_takesNeeds_130 (by decide) ?_
            exact ih _ _ _ _ _ _ hf _ _ _ hP hD hS (lv_sub hl [4, 1, 0] rfl) kx
          · have hf := pif hf c_28
            refine lv_iconst (v := (0 : Int32)) hx hb dX5_takesNeeds_93 (by decide) ?_
            refine lv_goto (tgt := 107) hx hb dX5_takesNeeds_94 (by decide) ?_
            obtain ⟨h_33, hf⟩ := pgd hf
            refine va_iast hx hb hK hP hD hS 3 1 rfl rfl h_33 dX5_takesNeeds_107 (fun H locs hP hD hS => ?_)
            have hP : va_P (dC, dI) vwCl [(a_o, .inr (5, [.int o_thrown, .long o_trace, .ref a_o_text, .int o_typed, .int o_next, .int o_token, .int o_place, .int o_value, .int o_fault, .ref a_o_need, .ref a_o_made, .ref a_o_skillTold, .ref a_o_placeTold, .ref a_o_skips, .ref a_o_wheelTold, .int o_trades, .int o_people, .int o_draftTrades, .int o_draftPeople, .int o_isShut, .ref a_o_tunes, .ref a_o_s, .ref a_o_spare, .ref a_o_kept, .ref a_o_isKept, .ref a_o_makes, .ref a_o_works, .ref a_o_order, .int o_falling])), (a_o_need, .inl (cI, 12, .inl o_need)), (a_o_tunes, .inl (cI, 3, .inl o_tunes)), (a_o_s, .inl (cI, 105, .inl (upd o_s ((2 : Int32) + l2).toNatClampNeg (0 : Int32))))] H := hP
            have hD : va_D A [(a_o, .inr (5, [.int o_thrown, .long o_trace, .ref a_o_text, .int o_typed, .int o_next, .int o_token, .int o_place, .int o_value, .int o_fault, .ref a_o_need, .ref a_o_made, .ref a_o_skillTold, .ref a_o_placeTold, .ref a_o_skips, .ref a_o_wheelTold, .int o_trades, .int o_people, .int o_draftTrades, .int o_draftPeople, .int o_isShut, .ref a_o_tunes, .ref a_o_s, .ref a_o_spare, .ref a_o_kept, .ref a_o_isKept, .ref a_o_makes, .ref a_o_works, .ref a_o_order, .int o_falling])), (a_o_need, .inl (cI, 12, .inl o_need)), (a_o_tunes, .inl (cI, 3, .inl o_tunes)), (a_o_s, .inl (cI, 105, .inl (upd o_s ((2 : Int32) + l2).toNatClampNeg (0 : Int32))))] := hD
            refine lv_aload_n hx hb dX5_takesNeeds_108 rfl (lv_at hl 2 rfl) ?_
            refine va_get (D := (dC, dI)) (ci := 5) (v := .ref a_o_s) (C := RX5) (T := TX5) (N := 29) hx hb hts uX5_takesNeeds_X5 hown hK hP 0 rfl rfl 21 (by decide) (hts _ mX5_takesNeeds_1) (fun _ h9 => h9) rfl dX5_takesNeeds_109 ?_
            refine lv_bipush (v := (8 : Int32)) hx hb dX5_takesNeeds_112 (by decide) ?_
            refine lv_iload_n hx hb dX5_takesNeeds_114 rfl (lv_at hl 4 rfl) ?_
            refine lv_iadd hx hb dX5_takesNeeds_115 ?_
            refine lv_dup2_11 hx hb dX5_takesNeeds_116 rfl rfl ?_
            obtain ⟨h_34, hf⟩ := pgd hf
            refine va_iald hx hb hK hP 3 1 rfl rfl h_34 dX5_takesNeeds_117 ?_
            refine lv_iload hx hb dX5_takesNeeds_118 (lv_at hl 0 rfl) ?_
            refine lv_iadd hx hb dX5_takesNeeds_120 ?_
            obtain ⟨h_35, hf⟩ := pgd hf
            refine va_iast hx hb hK hP hD hS 3 1 rfl rfl h_35 dX5_takesNeeds_121 (fun H locs hP hD hS => ?_)
            have hP : va_P (dC, dI) vwCl [(a_o, .inr (5, [.int o_thrown, .long o_trace, .ref a_o_text, .int o_typed, .int o_next, .int o_token, .int o_place, .int o_value, .int o_fault, .ref a_o_need, .ref a_o_made, .ref a_o_skillTold, .ref a_o_placeTold, .ref a_o_skips, .ref a_o_wheelTold, .int o_trades, .int o_people, .int o_draftTrades, .int o_draftPeople, .int o_isShut, .ref a_o_tunes, .ref a_o_s, .ref a_o_spare, .ref a_o_kept, .ref a_o_isKept, .ref a_o_makes, .ref a_o_works, .ref a_o_order, .int o_falling])), (a_o_need, .inl (cI, 12, .inl o_need)), (a_o_tunes, .inl (cI, 3, .inl o_tunes)), (a_o_s, .inl (cI, 105, .inl (upd (upd o_s ((2 : Int32) + l2).toNatClampNeg (0 : Int32)) ((8 : Int32) + l2).toNatClampNeg (((upd o_s ((2 : Int32) + l2).toNatClampNeg (0 : Int32)) ((8 : Int32) + l2).toNatClampNeg) + (0 : Int32)))))] H := hP
            have hD : va_D A [(a_o, .inr (5, [.int o_thrown, .long o_trace, .ref a_o_text, .int o_typed, .int o_next, .int o_token, .int o_place, .int o_value, .int o_fault, .ref a_o_need, .ref a_o_made, .ref a_o_skillTold, .ref a_o_placeTold, .ref a_o_skips, .ref a_o_wheelTold, .int o_trades, .int o_people, .int o_draftTrades, .int o_draftPeople, .int o_isShut, .ref a_o_tunes, .ref a_o_s, .ref a_o_spare, .ref a_o_kept, .ref a_o_isKept, .ref a_o_makes, .ref a_o_works, .ref a_o_order, .int o_falling])), (a_o_need, .inl (cI, 12, .inl o_need)), (a_o_tunes, .inl (cI, 3, .inl o_tunes)), (a_o_s, .inl (cI, 105, .inl (upd (upd o_s ((2 : Int32) + l2).toNatClampNeg (0 : Int32)) ((8 : Int32) + l2).toNatClampNeg (((upd o_s ((2 : Int32) + l2).toNatClampNeg (0 : Int32)) ((8 : Int32) + l2).toNatClampNeg) + (0 : Int32)))))] := hD
            refine lv_iload_n hx hb dX5_takesNeeds_122 rfl (lv_at hl 3 rfl) ?_
            refine lv_iload hx hb dX5_takesNeeds_123 (lv_at hl 0 rfl) ?_
            refine lv_iadd hx hb dX5_takesNeeds_125 ?_
            refine lv_istore_n (lv' := [(1, .int (l1 + (0 : Int32))), (4, .int (0 : Int32)), (3, .int (((o_need l2.toNatClampNeg) * ((10 : Int32) + (o_tunes (1 : Int32).toNatClampNeg))) / (10 : Int32))), (0, .ref a_o), (2, .int l2)]) hx hb dX5_takesNeeds_126 rfl hl (by decide) rfl (fun ls hl => ?_)
            refine lv_iinc (v := (l2 + 1)) (lv' := [(2, .int (l2 + 1)), (1, .int (l1 + (0 : Int32))), (4, .int (0 : Int32)), (3, .int (((o_need l2.toNatClampNeg) * ((10 : Int32) + (o_tunes (1 : Int32).toNatClampNeg))) / (10 : Int32))), (0, .ref a_o)]) hx hb dX5_takesNeeds_127 hl (k := 4) rfl rfl (by decide) rfl (fun ls hl => ?_)
            refine lv_goto (tgt := 4) hx hb dX5_takesNeeds_130 (by decide) ?_
            exact ih _ _ _ _ _ _ hf _ _ _ hP hD hS (lv_sub hl [4, 1, 0] rfl) kx
        · have hf := pif hf c_27
          refine lv_iload_n hx hb dX5_takesNeeds_65 rfl (lv_at hl 0 rfl) ?_
          refine lv_aload_n hx hb dX5_takesNeeds_66 rfl (lv_at hl 1 rfl) ?_
          refine va_get (D := (dC, dI)) (ci := 5) (v := .ref a_o_s) (C := RX5) (T := TX5) (N := 29) hx hb hts uX5_takesNeeds_X5 hown hK hP 0 rfl rfl 21 (by decide) (hts _ mX5_takesNeeds_1) (fun _ h9 => h9) rfl dX5_takesNeeds_67 ?_
          refine lv_iconst (v := (2 : Int32)) hx hb dX5_takesNeeds_70 (by decide) ?_
          refine lv_iload_n hx hb dX5_takesNeeds_71 rfl (lv_at hl 3 rfl) ?_
          refine lv_iadd hx hb dX5_takesNeeds_72 ?_
          obtain ⟨h_36, hf⟩ := pgd hf
          refine va_iald hx hb hK hP 3 1 rfl rfl h_36 dX5_takesNeeds_73 ?_
          refine lv_isub hx hb dX5_takesNeeds_74 ?_
          refine lv_goto (tgt := 79) hx hb dX5_takesNeeds_75 (by decide) ?_
          refine lv_istore (lv' := [(4, .int ((((o_need l2.toNatClampNeg) * ((10 : Int32) + (o_tunes (1 : Int32).toNatClampNeg))) / (10 : Int32)) - (o_s ((2 : Int32) + l2).toNatClampNeg))), (3, .int (((o_need l2.toNatClampNeg) * ((10 : Int32) + (o_tunes (1 : Int32).toNatClampNeg))) / (10 : Int32))), (0, .ref a_o), (1, .int l1), (2, .int l2)]) hx hb dX5_takesNeeds_79 hl (by decide) rfl (fun ls hl => ?_)
          refine lv_aload_n hx hb dX5_takesNeeds_81 rfl (lv_at hl 2 rfl) ?_
          refine va_get (D := (dC, dI)) (ci := 5) (v := .ref a_o_s) (C := RX5) (T := TX5) (N := 29) hx hb hts uX5_takesNeeds_X5 hown hK hP 0 rfl rfl 21 (by decide) (hts _ mX5_takesNeeds_1) (fun _ h9 => h9) rfl dX5_takesNeeds_82 ?_
          refine lv_iconst (v := (2 : Int32)) hx hb dX5_takesNeeds_85 (by decide) ?_
          refine lv_iload_n hx hb dX5_takesNeeds_86 rfl (lv_at hl 4 rfl) ?_
          refine lv_iadd hx hb dX5_takesNeeds_87 ?_
          refine lv_iload hx hb dX5_takesNeeds_88 (lv_at hl 0 rfl) ?_
          refine lv_if_le (tgt := 97) hx hb dX5_takesNeeds_90 (by decide) (fun c_37 => ?_) (fun c_37 => ?_)
          · have hf := pit hf c_37
            refine lv_aload_n hx hb dX5_takesNeeds_97 rfl (lv_at hl 2 rfl) ?_
            refine va_get (D := (dC, dI)) (ci := 5) (v := .ref a_o_s) (C := RX5) (T := TX5) (N := 29) hx hb hts uX5_takesNeeds_X5 hown hK hP 0 rfl rfl 21 (by decide) (hts _ mX5_takesNeeds_1) (fun _ h9 => h9) rfl dX5_takesNeeds_98 ?_
            refine lv_iconst (v := (2 : Int32)) hx hb dX5_takesNeeds_101 (by decide) ?_
            refine lv_iload_n hx hb dX5_takesNeeds_102 rfl (lv_at hl 4 rfl) ?_
            refine lv_iadd hx hb dX5_takesNeeds_103 ?_
            obtain ⟨h_38, hf⟩ := pgd hf
            refine va_iald hx hb hK hP 3 1 rfl rfl h_38 dX5_takesNeeds_104 ?_
            refine lv_iload_n hx hb dX5_takesNeeds_105 rfl (lv_at hl 1 rfl) ?_
            refine lv_isub hx hb dX5_takesNeeds_106 ?_
            obtain ⟨h_39, hf⟩ := pgd hf
            refine va_iast hx hb hK hP hD hS 3 1 rfl rfl h_39 dX5_takesNeeds_107 (fun H locs hP hD hS => ?_)
            have hP : va_P (dC, dI) vwCl [(a_o, .inr (5, [.int o_thrown, .long o_trace, .ref a_o_text, .int o_typed, .int o_next, .int o_token, .int o_place, .int o_value, .int o_fault, .ref a_o_need, .ref a_o_made, .ref a_o_skillTold, .ref a_o_placeTold, .ref a_o_skips, .ref a_o_wheelTold, .int o_trades, .int o_people, .int o_draftTrades, .int o_draftPeople, .int o_isShut, .ref a_o_tunes, .ref a_o_s, .ref a_o_spare, .ref a_o_kept, .ref a_o_isKept, .ref a_o_makes, .ref a_o_works, .ref a_o_order, .int o_falling])), (a_o_need, .inl (cI, 12, .inl o_need)), (a_o_tunes, .inl (cI, 3, .inl o_tunes)), (a_o_s, .inl (cI, 105, .inl (upd o_s ((2 : Int32) + l2).toNatClampNeg ((o_s ((2 : Int32) + l2).toNatClampNeg) - (((o_need l2.toNatClampNeg) * ((10 : Int32) + (o_tunes (1 : Int32).toNatClampNeg))) / (10 : Int32))))))] H := hP
            have hD : va_D A [(a_o, .inr (5, [.int o_thrown, .long o_trace, .ref a_o_text, .int o_typed, .int o_next, .int o_token, .int o_place, .int o_value, .int o_fault, .ref a_o_need, .ref a_o_made, .ref a_o_skillTold, .ref a_o_placeTold, .ref a_o_skips, .ref a_o_wheelTold, .int o_trades, .int o_people, .int o_draftTrades, .int o_draftPeople, .int o_isShut, .ref a_o_tunes, .ref a_o_s, .ref a_o_spare, .ref a_o_kept, .ref a_o_isKept, .ref a_o_makes, .ref a_o_works, .ref a_o_order, .int o_falling])), (a_o_need, .inl (cI, 12, .inl o_need)), (a_o_tunes, .inl (cI, 3, .inl o_tunes)), (a_o_s, .inl (cI, 105, .inl (upd o_s ((2 : Int32) + l2).toNatClampNeg ((o_s ((2 : Int32) + l2).toNatClampNeg) - (((o_need l2.toNatClampNeg) * ((10 : Int32) + (o_tunes (1 : Int32).toNatClampNeg))) / (10 : Int32))))))] := hD
            refine lv_aload_n hx hb dX5_takesNeeds_108 rfl (lv_at hl 2 rfl) ?_
            refine va_get (D := (dC, dI)) (ci := 5) (v := .ref a_o_s) (C := RX5) (T := TX5) (N := 29) hx hb hts uX5_takesNeeds_X5 hown hK hP 0 rfl rfl 21 (by decide) (hts _ mX5_takesNeeds_1) (fun _ h9 => h9) rfl dX5_takesNeeds_109 ?_
            refine lv_bipush (v := (8 : Int32)) hx hb dX5_takesNeeds_112 (by decide) ?_
            refine lv_iload_n hx hb dX5_takesNeeds_114 rfl (lv_at hl 4 rfl) ?_
            refine lv_iadd hx hb dX5_takesNeeds_115 ?_
            refine lv_dup2_11 hx hb dX5_takesNeeds_116 rfl rfl ?_
            obtain ⟨h_40, hf⟩ := pgd hf
            refine va_iald hx hb hK hP 3 1 rfl rfl h_40 dX5_takesNeeds_117 ?_
            refine lv_iload hx hb dX5_takesNeeds_118 (lv_at hl 0 rfl) ?_
            refine lv_iadd hx hb dX5_takesNeeds_120 ?_
            obtain ⟨h_41, hf⟩ := pgd hf
            refine va_iast hx hb hK hP hD hS 3 1 rfl rfl h_41 dX5_takesNeeds_121 (fun H locs hP hD hS => ?_)
            have hP : va_P (dC, dI) vwCl [(a_o, .inr (5, [.int o_thrown, .long o_trace, .ref a_o_text, .int o_typed, .int o_next, .int o_token, .int o_place, .int o_value, .int o_fault, .ref a_o_need, .ref a_o_made, .ref a_o_skillTold, .ref a_o_placeTold, .ref a_o_skips, .ref a_o_wheelTold, .int o_trades, .int o_people, .int o_draftTrades, .int o_draftPeople, .int o_isShut, .ref a_o_tunes, .ref a_o_s, .ref a_o_spare, .ref a_o_kept, .ref a_o_isKept, .ref a_o_makes, .ref a_o_works, .ref a_o_order, .int o_falling])), (a_o_need, .inl (cI, 12, .inl o_need)), (a_o_tunes, .inl (cI, 3, .inl o_tunes)), (a_o_s, .inl (cI, 105, .inl (upd (upd o_s ((2 : Int32) + l2).toNatClampNeg ((o_s ((2 : Int32) + l2).toNatClampNeg) - (((o_need l2.toNatClampNeg) * ((10 : Int32) + (o_tunes (1 : Int32).toNatClampNeg))) / (10 : Int32)))) ((8 : Int32) + l2).toNatClampNeg (((upd o_s ((2 : Int32) + l2).toNatClampNeg ((o_s ((2 : Int32) + l2).toNatClampNeg) - (((o_need l2.toNatClampNeg) * ((10 : Int32) + (o_tunes (1 : Int32).toNatClampNeg))) / (10 : Int32)))) ((8 : Int32) + l2).toNatClampNeg) + ((((o_need l2.toNatClampNeg) * ((10 : Int32) + (o_tunes (1 : Int32).toNatClampNeg))) / (10 : Int32)) - (o_s ((2 : Int32) + l2).toNatClampNeg))))))] H := hP
            have hD : va_D A [(a_o, .inr (5, [.int o_thrown, .long o_trace, .ref a_o_text, .int o_typed, .int o_next, .int o_token, .int o_place, .int o_value, .int o_fault, .ref a_o_need, .ref a_o_made, .ref a_o_skillTold, .ref a_o_placeTold, .ref a_o_skips, .ref a_o_wheelTold, .int o_trades, .int o_people, .int o_draftTrades, .int o_draftPeople, .int o_isShut, .ref a_o_tunes, .ref a_o_s, .ref a_o_spare, .ref a_o_kept, .ref a_o_isKept, .ref a_o_makes, .ref a_o_works, .ref a_o_order, .int o_falling])), (a_o_need, .inl (cI, 12, .inl o_need)), (a_o_tunes, .inl (cI, 3, .inl o_tunes)), (a_o_s, .inl (cI, 105, .inl (upd (upd o_s ((2 : Int32) + l2).toNatClampNeg ((o_s ((2 : Int32) + l2).toNatClampNeg) - (((o_need l2.toNatClampNeg) * ((10 : Int32) + (o_tunes (1 : Int32).toNatClampNeg))) / (10 : Int32)))) ((8 : Int32) + l2).toNatClampNeg (((upd o_s ((2 : Int32) + l2).toNatClampNeg ((o_s ((2 : Int32) + l2).toNatClampNeg) - (((o_need l2.toNatClampNeg) * ((10 : Int32) + (o_tunes (1 : Int32).toNatClampNeg))) / (10 : Int32)))) ((8 : Int32) + l2).toNatClampNeg) + ((((o_need l2.toNatClampNeg) * ((10 : Int32) + (o_tunes (1 : Int32).toNatClampNeg))) / (10 : Int32)) - (o_s ((2 : Int32) + l2).toNatClampNeg))))))] := hD
            refine lv_iload_n hx hb dX5_takesNeeds_122 rfl (lv_at hl 3 rfl) ?_
            refine lv_iload hx hb dX5_takesNeeds_123 (lv_at hl 0 rfl) ?_
            refine lv_iadd hx hb dX5_takesNeeds_125 ?_
            refine lv_istore_n (lv' := [(1, .int (l1 + ((((o_need l2.toNatClampNeg) * ((10 : Int32) + (o_tunes (1 : Int32).toNatClampNeg))) / (10 : Int32)) - (o_s ((2 : Int32) + l2).toNatClampNeg)))), (4, .int ((((o_need l2.toNatClampNeg) * ((10 : Int32) + (o_tunes (1 : Int32).toNatClampNeg))) / (10 : Int32)) - (o_s ((2 : Int32) + l2).toNatClampNeg))), (3, .int (((o_need l2.toNatClampNeg) * ((10 : Int32) + (o_tunes (1 : Int32).toNatClampNeg))) / (10 : Int32))), (0, .ref a_o), (2, .int l2)]) hx hb dX5_takesNeeds_126 rfl hl (by decide) rfl (fun ls hl => ?_)
            refine lv_iinc (v := (l2 + 1)) (lv' := [(2, .int (l2 + 1)), (1, .int (l1 + ((((o_need l2.toNatClampNeg) * ((10 : Int32) + (o_tunes (1 : Int32).toNatClampNeg))) / (10 : Int32)) - (o_s ((2 : Int32) + l2).toNatClampNeg)))), (4, .int ((((o_need l2.toNatClampNeg) * ((10 : Int32) + (o_tunes (1 : Int32).toNatClampNeg))) / (10 : Int32)) - (o_s ((2 : Int32) + l2).toNatClampNeg))), (3, .int (((o_need l2.toNatClampNeg) * ((10 : Int32) + (o_tunes (1 : Int32).toNatClampNeg))) / (10 : Int32))), (0, .ref a_o)]) hx hb dX5_takesNeeds_127 hl (k := 4) rfl rfl (by decide) rfl (fun ls hl => ?_)
            refine lv_goto (tgt := 4) hx hb dX5_takesNeeds_130 (by decide) ?_
            exact ih _ _ _ _ _ _ hf _ _ _ hP hD hS (lv_sub hl [4, 1, 0] rfl) kx
          · have hf := pif hf c_37
            refine lv_iconst (v := (0 : Int32)) hx hb dX5_takesNeeds_93 (by decide) ?_
            refine lv_goto (tgt := 107) hx hb dX5_takesNeeds_94 (by decide) ?_
            obtain ⟨h_42, hf⟩ := pgd hf
            refine va_iast hx hb hK hP hD hS 3 1 rfl rfl h_42 dX5_takesNeeds_107 (fun H locs hP hD hS => ?_)
            have hP : va_P (dC, dI) vwCl [(a_o, .inr (5, [.int o_thrown, .long o_trace, .ref a_o_text, .int o_typed, .int o_next, .int o_token, .int o_place, .int o_value, .int o_fault, .ref a_o_need, .ref a_o_made, .ref a_o_skillTold, .ref a_o_placeTold, .ref a_o_skips, .ref a_o_wheelTold, .int o_trades, .int o_people, .int o_draftTrades, .int o_draftPeople, .int o_isShut, .ref a_o_tunes, .ref a_o_s, .ref a_o_spare, .ref a_o_kept, .ref a_o_isKept, .ref a_o_makes, .ref a_o_works, .ref a_o_order, .int o_falling])), (a_o_need, .inl (cI, 12, .inl o_need)), (a_o_tunes, .inl (cI, 3, .inl o_tunes)), (a_o_s, .inl (cI, 105, .inl (upd o_s ((2 : Int32) + l2).toNatClampNeg (0 : Int32))))] H := hP
            have hD : va_D A [(a_o, .inr (5, [.int o_thrown, .long o_trace, .ref a_o_text, .int o_typed, .int o_next, .int o_token, .int o_place, .int o_value, .int o_fault, .ref a_o_need, .ref a_o_made, .ref a_o_skillTold, .ref a_o_placeTold, .ref a_o_skips, .ref a_o_wheelTold, .int o_trades, .int o_people, .int o_draftTrades, .int o_draftPeople, .int o_isShut, .ref a_o_tunes, .ref a_o_s, .ref a_o_spare, .ref a_o_kept, .ref a_o_isKept, .ref a_o_makes, .ref a_o_works, .ref a_o_order, .int o_falling])), (a_o_need, .inl (cI, 12, .inl o_need)), (a_o_tunes, .inl (cI, 3, .inl o_tunes)), (a_o_s, .inl (cI, 105, .inl (upd o_s ((2 : Int32) + l2).toNatClampNeg (0 : Int32))))] := hD
            refine lv_aload_n hx hb dX5_takesNeeds_108 rfl (lv_at hl 2 rfl) ?_
            refine va_get (D := (dC, dI)) (ci := 5) (v := .ref a_o_s) (C := RX5) (T := TX5) (N := 29) hx hb hts uX5_takesNeeds_X5 hown hK hP 0 rfl rfl 21 (by decide) (hts _ mX5_takesNeeds_1) (fun _ h9 => h9) rfl dX5_takesNeeds_109 ?_
            refine lv_bipush (v := (8 : Int32)) hx hb dX5_takesNeeds_112 (by decide) ?_
            refine lv_iload_n hx hb dX5_takesNeeds_114 rfl (lv_at hl 4 rfl) ?_
            refine lv_iadd hx hb dX5_takesNeeds_115 ?_
            refine lv_dup2_11 hx hb dX5_takesNeeds_116 rfl rfl ?_
            obtain ⟨h_43, hf⟩ := pgd hf
            refine va_iald hx hb hK hP 3 1 rfl rfl h_43 dX5_takesNeeds_117 ?_
            refine lv_iload hx hb dX5_takesNeeds_118 (lv_at hl 0 rfl) ?_
            refine lv_iadd hx hb dX5_takesNeeds_120 ?_
            obtain ⟨h_44, hf⟩ := pgd hf
            refine va_iast hx hb hK hP hD hS 3 1 rfl rfl h_44 dX5_takesNeeds_121 (fun H locs hP hD hS => ?_)
            have hP : va_P (dC, dI) vwCl [(a_o, .inr (5, [.int o_thrown, .long o_trace, .ref a_o_text, .int o_typed, .int o_next, .int o_token, .int o_place, .int o_value, .int o_fault, .ref a_o_need, .ref a_o_made, .ref a_o_skillTold, .ref a_o_placeTold, .ref a_o_skips, .ref a_o_wheelTold, .int o_trades, .int o_people, .int o_draftTrades, .int o_draftPeople, .int o_isShut, .ref a_o_tunes, .ref a_o_s, .ref a_o_spare, .ref a_o_kept, .ref a_o_isKept, .ref a_o_makes, .ref a_o_works, .ref a_o_order, .int o_falling])), (a_o_need, .inl (cI, 12, .inl o_need)), (a_o_tunes, .inl (cI, 3, .inl o_tunes)), (a_o_s, .inl (cI, 105, .inl (upd (upd o_s ((2 : Int32) + l2).toNatClampNeg (0 : Int32)) ((8 : Int32) + l2).toNatClampNeg (((upd o_s ((2 : Int32) + l2).toNatClampNeg (0 : Int32)) ((8 : Int32) + l2).toNatClampNeg) + ((((o_need l2.toNatClampNeg) * ((10 : Int32) + (o_tunes (1 : Int32).toNatClampNeg))) / (10 : Int32)) - (o_s ((2 : Int32) + l2).toNatClampNeg))))))] H := hP
            have hD : va_D A [(a_o, .inr (5, [.int o_thrown, .long o_trace, .ref a_o_text, .int o_typed, .int o_next, .int o_token, .int o_place, .int o_value, .int o_fault, .ref a_o_need, .ref a_o_made, .ref a_o_skillTold, .ref a_o_placeTold, .ref a_o_skips, .ref a_o_wheelTold, .int o_trades, .int o_people, .int o_draftTrades, .int o_draftPeople, .int o_isShut, .ref a_o_tunes, .ref a_o_s, .ref a_o_spare, .ref a_o_kept, .ref a_o_isKept, .ref a_o_makes, .ref a_o_works, .ref a_o_order, .int o_falling])), (a_o_need, .inl (cI, 12, .inl o_need)), (a_o_tunes, .inl (cI, 3, .inl o_tunes)), (a_o_s, .inl (cI, 105, .inl (upd (upd o_s ((2 : Int32) + l2).toNatClampNeg (0 : Int32)) ((8 : Int32) + l2).toNatClampNeg (((upd o_s ((2 : Int32) + l2).toNatClampNeg (0 : Int32)) ((8 : Int32) + l2).toNatClampNeg) + ((((o_need l2.toNatClampNeg) * ((10 : Int32) + (o_tunes (1 : Int32).toNatClampNeg))) / (10 : Int32)) - (o_s ((2 : Int32) + l2).toNatClampNeg))))))] := hD
            refine lv_iload_n hx hb dX5_takesNeeds_122 rfl (lv_at hl 3 rfl) ?_
            refine lv_iload hx hb dX5_takesNeeds_123 (lv_at hl 0 rfl) ?_
            refine lv_iadd hx hb dX5_takesNeeds_125 ?_
            refine lv_istore_n (lv' := [(1, .int (l1 + ((((o_need l2.toNatClampNeg) * ((10 : Int32) + (o_tunes (1 : Int32).toNatClampNeg))) / (10 : Int32)) - (o_s ((2 : Int32) + l2).toNatClampNeg)))), (4, .int ((((o_need l2.toNatClampNeg) * ((10 : Int32) + (o_tunes (1 : Int32).toNatClampNeg))) / (10 : Int32)) - (o_s ((2 : Int32) + l2).toNatClampNeg))), (3, .int (((o_need l2.toNatClampNeg) * ((10 : Int32) + (o_tunes (1 : Int32).toNatClampNeg))) / (10 : Int32))), (0, .ref a_o), (2, .int l2)]) hx hb dX5_takesNeeds_126 rfl hl (by decide) rfl (fun ls hl => ?_)
            refine lv_iinc (v := (l2 + 1)) (lv' := [(2, .int (l2 + 1)), (1, .int (l1 + ((((o_need l2.toNatClampNeg) * ((10 : Int32) + (o_tunes (1 : Int32).toNatClampNeg))) / (10 : Int32)) - (o_s ((2 : Int32) + l2).toNatClampNeg)))), (4, .int ((((o_need l2.toNatClampNeg) * ((10 : Int32) + (o_tunes (1 : Int32).toNatClampNeg))) / (10 : Int32)) - (o_s ((2 : Int32) + l2).toNatClampNeg))), (3, .int (((o_need l2.toNatClampNeg) * ((10 : Int32) + (o_tunes (1 : Int32).toNatClampNeg))) / (10 : Int32))), (0, .ref a_o)]) hx hb dX5_takesNeeds_127 hl (k := 4) rfl rfl (by decide) rfl (fun ls hl => ?_)
            refine lv_goto (tgt := 4) hx hb dX5_takesNeeds_130 (by decide) ?_
            exact ih _ _ _ _ _ _ hf _ _ _ hP hD hS (lv_sub hl [4, 1, 0] rfl) kx
set_option maxHeartbeats 4000000 in
set_option maxRecDepth 100000 in
theorem kX5_takesNeeds (l : Launch) (dC : Nat → ClassId) (dI : Nat → Nat → Nat) (Z : gZ) (cC cI cZ cW : ClassId) (a_o a_o_text a_o_need a_o_made a_o_skillTold a_o_placeTold a_o_skips a_o_wheelTold a_o_tunes a_o_s a_o_spare a_o_kept a_o_isKept a_o_makes a_o_works a_o_order : Nat) (sz : Nat) (o_thrown : Int32) (o_trace : Int64) (o_typed : Int32) (o_next : Int32) (o_token : Int32) (o_place : Int32) (o_value : Int32) (o_fault : Int32) (o_trades : Int32) (o_people : Int32) (o_draftTrades : Int32) (o_draftPeople : Int32) (o_isShut : Int32) (o_falling : Int32) (o_need : Nat → Int32) (o_tunes : Nat → Int32) (o_s : Nat → Int32)  (N : Nat) (r' : Int32) (o_s' : Nat → Int32) (hf : fX5_takesNeeds N o_trades o_need o_tunes o_s   = some (r', o_s')) : Met l yX5_takesNeeds wsX5_takesNeeds rmX5_takesNeeds (va_Pc [.ref a_o] (gB (dC, dI) Z [(cC, .char), (cI, .int), (cZ, .boolean), (cW, .object RX3)] [(a_o, .inr (5, [.int o_thrown, .long o_trace, .ref a_o_text, .int o_typed, .int o_next, .int o_token, .int o_place, .int o_value, .int o_fault, .ref a_o_need, .ref a_o_made, .ref a_o_skillTold, .ref a_o_placeTold, .ref a_o_skips, .ref a_o_wheelTold, .int o_trades, .int o_people, .int o_draftTrades, .int o_draftPeople, .int o_isShut, .ref a_o_tunes, .ref a_o_s, .ref a_o_spare, .ref a_o_kept, .ref a_o_isKept, .ref a_o_makes, .ref a_o_works, .ref a_o_order, .int o_falling])), (a_o_need, .inl (cI, 12, .inl o_need)), (a_o_tunes, .inl (cI, 3, .inl o_tunes)), (a_o_s, .inl (cI, 105, .inl o_s))] sz)) (va_Qi (fun (r : Int32) (_ : Unit) => r = r') (gE (dC, dI) [(a_o, .inr (5, [.int o_thrown, .long o_trace, .ref a_o_text, .int o_typed, .int o_next, .int o_token, .int o_place, .int o_value, .int o_fault, .ref a_o_need, .ref a_o_made, .ref a_o_skillTold, .ref a_o_placeTold, .ref a_o_skips, .ref a_o_wheelTold, .int o_trades, .int o_people, .int o_draftTrades, .int o_draftPeople, .int o_isShut, .ref a_o_tunes, .ref a_o_s, .ref a_o_spare, .ref a_o_kept, .ref a_o_isKept, .ref a_o_makes, .ref a_o_works, .ref a_o_order, .int o_falling])), (a_o_need, .inl (cI, 12, .inl o_need)), (a_o_tunes, .inl (cI, 3, .inl o_tunes)), (a_o_s, .inl (cI, 105, .inl o_s'))]) (va_A [(a_o, .inr (5, [.int o_thrown, .long o_trace, .ref a_o_text, .int o_typed, .int o_next, .int o_token, .int o_place, .int o_value, .int o_fault, .ref a_o_need, .ref a_o_made, .ref a_o_skillTold, .ref a_o_placeTold, .ref a_o_skips, .ref a_o_wheelTold, .int o_trades, .int o_people, .int o_draftTrades, .int o_draftPeople, .int o_isShut, .ref a_o_tunes, .ref a_o_s, .ref a_o_spare, .ref a_o_kept, .ref a_o_isKept, .ref a_o_makes, .ref a_o_works, .ref a_o_order, .int o_falling])), (a_o_need, .inl (cI, 12, .inl o_need)), (a_o_tunes, .inl (cI, 3, .inl o_tunes)), (a_o_s, .inl (cI, 105, .inl o_s))] sz)) 0 0 (va_A [(a_o, .inr (5, [.int o_thrown, .long o_trace, .ref a_o_text, .int o_typed, .int o_next, .int o_token, .int o_place, .int o_value, .int o_fault, .ref a_o_need, .ref a_o_made, .ref a_o_skillTold, .ref a_o_placeTold, .ref a_o_skips, .ref a_o_wheelTold, .int o_trades, .int o_people, .int o_draftTrades, .int o_draftPeople, .int o_isShut, .ref a_o_tunes, .ref a_o_s, .ref a_o_spare, .ref a_o_kept, .ref a_o_isKept, .ref a_o_makes, .ref a_o_works, .ref a_o_order, .int o_falling])), (a_o_need, .inl (cI, 12, .inl o_need)), (a_o_tunes, .inl (cI, 3, .inl o_tunes)), (a_o_s, .inl (cI, 105, .inl o_s))] sz) := by
  refine gMet (cc := cX5_takesNeeds) (maxL := 5) (ret := (some .int)) (Qc := fun A => va_Qi (fun (r : Int32) (_ : Unit) => r = r') (gE (dC, dI) [(a_o, .inr (5, [.int o_thrown, .long o_trace, .ref a_o_text, .int o_typed, .int o_next, .int o_token, .int o_place, .int o_value, .int o_fault, .ref a_o_need, .ref a_o_made, .ref a_o_skillTold, .ref a_o_placeTold, .ref a_o_skips, .ref a_o_wheelTold, .int o_trades, .int o_people, .int o_draftTrades, .int o_draftPeople, .int o_isShut, .ref a_o_tunes, .ref a_o_s, .ref a_o_spare, .ref a_o_kept, .ref a_o_isKept, .ref a_o_makes, .ref a_o_works, .ref a_o_order, .int o_falling])), (a_o_need, .inl (cI, 12, .inl o_need)), (a_o_tunes, .inl (cI, 3, .inl o_tunes)), (a_o_s, .inl (cI, 105, .inl o_s'))]) A) (by decide) rfl (Nat.le_of_ble_eq_true rfl) ?_
  intro p e s m below meth c A ls hg0 _ hsz hP hD hS hl
  have hg0 : gX p s m _ meth c cX5_takesNeeds 5 (some .int) wsX5_takesNeeds RX5 (dC, dI) Z [(cC, .char), (cI, .int), (cZ, .boolean), (cW, .object RX3)] A := hg0
  obtain ⟨hx, hb, hr, hml, hown, hts, hlocks, hA, hK, hN⟩ := id hg0
  subst hsz
  have hF : CallFix p m c cX5_takesNeeds 5 s _ wsX5_takesNeeds RX5 := ⟨hx, hb, hml, hown, hts⟩
  have hl : lv_has ls 5 [(0, .ref a_o)] := hl
  unfold fX5_takesNeeds at hf
  refine lv_iconst (v := (0 : Int32)) hx hb dX5_takesNeeds_0 (by decide) ?_
  refine lv_istore_n (lv' := [(1, .int (0 : Int32)), (0, .ref a_o)]) hx hb dX5_takesNeeds_1 rfl hl (by decide) rfl (fun ls hl => ?_)
  refine lv_iconst (v := (0 : Int32)) hx hb dX5_takesNeeds_2 (by decide) ?_
  refine lv_istore_n (lv' := [(2, .int (0 : Int32)), (1, .int (0 : Int32)), (0, .ref a_o)]) hx hb dX5_takesNeeds_3 rfl hl (by decide) rfl (fun ls hl => ?_)
  obtain ⟨o_s_1, l1_2, l2_3, hc, hf⟩ := pb3 hf
  refine wX5_takesNeeds_4 hg0 a_o a_o_text a_o_need a_o_made a_o_skillTold a_o_placeTold a_o_skips a_o_wheelTold a_o_tunes a_o_s a_o_spare a_o_kept a_o_isKept a_o_makes a_o_works a_o_order o_thrown o_trace o_typed o_next o_token o_place o_value o_fault o_trades o_people o_draftTrades o_draftPeople o_isShut o_falling o_need o_tunes  N N o_s (0 : Int32) (0 : Int32) o_s_1 l1_2 l2_3 hc _ _ _ hP hD hS (lv_sub hl [2, 1, 0] rfl) (fun H locs ls hP hD hS hl => ?_)
  refine lv_aload_n hx hb dX5_takesNeeds_133 rfl (lv_at hl 0 rfl) ?_
  refine va_get (D := (dC, dI)) (ci := 5) (v := .ref a_o_s) (C := RX5) (T := TX5) (N := 29) hx hb hts uX5_takesNeeds_X5 hown hK hP 0 rfl rfl 21 (by decide) (hts _ mX5_takesNeeds_1) (fun _ h9 => h9) rfl dX5_takesNeeds_134 ?_
  refine lv_iconst (v := (1 : Int32)) hx hb dX5_takesNeeds_137 (by decide) ?_
  refine lv_dup2_11 hx hb dX5_takesNeeds_138 rfl rfl ?_
  obtain ⟨h_4, hf⟩ := pgd hf
  refine va_iald hx hb hK hP 3 1 rfl rfl h_4 dX5_takesNeeds_139 ?_
  refine lv_iload_n hx hb dX5_takesNeeds_140 rfl (lv_at hl 1 rfl) ?_
  refine lv_aload_n hx hb dX5_takesNeeds_141 rfl (lv_at hl 0 rfl) ?_
  refine va_get (D := (dC, dI)) (ci := 5) (v := .ref a_o_tunes) (C := RX5) (T := TX5) (N := 29) hx hb hts uX5_takesNeeds_X5 hown hK hP 0 rfl rfl 20 (by decide) (hts _ mX5_takesNeeds_3) (fun _ h9 => h9) rfl dX5_takesNeeds_142 ?_
  refine lv_iconst (v := (2 : Int32)) hx hb dX5_takesNeeds_145 (by decide) ?_
  obtain ⟨h_5, hf⟩ := pgd hf
  refine va_iald hx hb hK hP 2 1 rfl rfl h_5 dX5_takesNeeds_146 ?_
  refine lv_icmp_lt (tgt := 154) hx hb dX5_takesNeeds_147 (by decide) (fun c_6 => ?_) (fun c_6 => ?_)
  · have hf := pit hf c_6
    refine lv_iconst (v := (0 : Int32)) hx hb dX5_takesNeeds_154 (by decide) ?_
    refine lv_iadd hx hb dX5_takesNeeds_155 ?_
    obtain ⟨h_7, hf⟩ := pgd hf
    refine va_iast hx hb hK hP hD hS 3 1 rfl rfl h_7 dX5_takesNeeds_156 (fun H locs hP hD hS => ?_)
    have hP : va_P (dC, dI) vwCl [(a_o, .inr (5, [.int o_thrown, .long o_trace, .ref a_o_text, .int o_typed, .int o_next, .int o_token, .int o_place, .int o_value, .int o_fault, .ref a_o_need, .ref a_o_made, .ref a_o_skillTold, .ref a_o_placeTold, .ref a_o_skips, .ref a_o_wheelTold, .int o_trades, .int o_people, .int o_draftTrades, .int o_draftPeople, .int o_isShut, .ref a_o_tunes, .ref a_o_s, .ref a_o_spare, .ref a_o_kept, .ref a_o_isKept, .ref a_o_makes, .ref a_o_works, .ref a_o_order, .int o_falling])), (a_o_need, .inl (cI, 12, .inl o_need)), (a_o_tunes, .inl (cI, 3, .inl o_tunes)), (a_o_s, .inl (cI, 105, .inl (upd o_s_1 (1 : Int32).toNatClampNeg ((o_s_1 (1 : Int32).toNatClampNeg) + (0 : Int32)))))] H := hP
    have hD : va_D A [(a_o, .inr (5, [.int o_thrown, .long o_trace, .ref a_o_text, .int o_typed, .int o_next, .int o_token, .int o_place, .int o_value, .int o_fault, .ref a_o_need, .ref a_o_made, .ref a_o_skillTold, .ref a_o_placeTold, .ref a_o_skips, .ref a_o_wheelTold, .int o_trades, .int o_people, .int o_draftTrades, .int o_draftPeople, .int o_isShut, .ref a_o_tunes, .ref a_o_s, .ref a_o_spare, .ref a_o_kept, .ref a_o_isKept, .ref a_o_makes, .ref a_o_works, .ref a_o_order, .int o_falling])), (a_o_need, .inl (cI, 12, .inl o_need)), (a_o_tunes, .inl (cI, 3, .inl o_tunes)), (a_o_s, .inl (cI, 105, .inl (upd o_s_1 (1 : Int32).toNatClampNeg ((o_s_1 (1 : Int32).toNatClampNeg) + (0 : Int32)))))] := hD
    refine lv_iload_n hx hb dX5_takesNeeds_157 rfl (lv_at hl 1 rfl) ?_
    have q0 := Option.some.inj hf
    obtain ⟨e0, q1⟩ := Prod.mk.inj q0
    subst e0
    subst q1
    exact gRi hx hb hr hlocks hP hS dX5_takesNeeds_158
  · have hf := pif hf c_6
    refine lv_iconst (v := (1 : Int32)) hx hb dX5_takesNeeds_150 (by decide) ?_
    refine lv_goto (tgt := 155) hx hb dX5_takesNeeds_151 (by decide) ?_
    refine lv_iadd hx hb dX5_takesNeeds_155 ?_
    obtain ⟨h_8, hf⟩ := pgd hf
    refine va_iast hx hb hK hP hD hS 3 1 rfl rfl h_8 dX5_takesNeeds_156 (fun H locs hP hD hS => ?_)
    have hP : va_P (dC, dI) vwCl [(a_o, .inr (5, [.int o_thrown, .long o_trace, .ref a_o_text, .int o_typed, .int o_next, .int o_token, .int o_place, .int o_value, .int o_fault, .ref a_o_need, .ref a_o_made, .ref a_o_skillTold, .ref a_o_placeTold, .ref a_o_skips, .ref a_o_wheelTold, .int o_trades, .int o_people, .int o_draftTrades, .int o_draftPeople, .int o_isShut, .ref a_o_tunes, .ref a_o_s, .ref a_o_spare, .ref a_o_kept, .ref a_o_isKept, .ref a_o_makes, .ref a_o_works, .ref a_o_order, .int o_falling])), (a_o_need, .inl (cI, 12, .inl o_need)), (a_o_tunes, .inl (cI, 3, .inl o_tunes)), (a_o_s, .inl (cI, 105, .inl (upd o_s_1 (1 : Int32).toNatClampNeg ((o_s_1 (1 : Int32).toNatClampNeg) + (1 : Int32)))))] H := hP
    have hD : va_D A [(a_o, .inr (5, [.int o_thrown, .long o_trace, .ref a_o_text, .int o_typed, .int o_next, .int o_token, .int o_place, .int o_value, .int o_fault, .ref a_o_need, .ref a_o_made, .ref a_o_skillTold, .ref a_o_placeTold, .ref a_o_skips, .ref a_o_wheelTold, .int o_trades, .int o_people, .int o_draftTrades, .int o_draftPeople, .int o_isShut, .ref a_o_tunes, .ref a_o_s, .ref a_o_spare, .ref a_o_kept, .ref a_o_isKept, .ref a_o_makes, .ref a_o_works, .ref a_o_order, .int o_falling])), (a_o_need, .inl (cI, 12, .inl o_need)), (a_o_tunes, .inl (cI, 3, .inl o_tunes)), (a_o_s, .inl (cI, 105, .inl (upd o_s_1 (1 : Int32).toNatClampNeg ((o_s_1 (1 : Int32).toNatClampNeg) + (1 : Int32)))))] := hD
    refine lv_iload_n hx hb dX5_takesNeeds_157 rfl (lv_at hl 1 rfl) ?_
    have q0 := Option.some.inj hf
    obtain ⟨e0, q1⟩ := Prod.mk.inj q0
    subst e0
    subst q1
    exact gRi hx hb hr hlocks hP hS dX5_takesNeeds_158
abbrev rmX5_skillsChange : Room := { frames := 1, cells := 0, slots := 0, locals := 21 }
set_option maxRecDepth 20000 in
theorem uX5_skillsChange_X5 : ∀ w ∈ wsX50, w ∈ wsX5_skillsChange := by decide +kernel
set_option maxRecDepth 20000 in
theorem mX5_skillsChange_0 : (Cond.fieldLink RX5 50 "TradeWheelModel" "works" "[I" : Cond) ∈ wsX5_skillsChange := by decide +kernel
set_option maxRecDepth 20000 in
theorem mX5_skillsChange_1 : (Cond.fieldLink RX5 31 "TradeWheelModel" "tunes" "[I" : Cond) ∈ wsX5_skillsChange := by decide +kernel
set_option maxRecDepth 20000 in
theorem mX5_skillsChange_2 : (Cond.fieldLink RX5 137 "TradeWheelModel" "trades" "I" : Cond) ∈ wsX5_skillsChange := by decide +kernel
set_option maxRecDepth 20000 in
theorem mX5_skillsChange_3 : (Cond.fieldLink RX5 34 "TradeWheelModel" "s" "[I" : Cond) ∈ wsX5_skillsChange := by decide +kernel
set_option maxHeartbeats 4000000 in
set_option maxRecDepth 100000 in
theorem wX5_skillsChange_56 {p : Program} {l : Launch} {e : Env} {s : State} {m : MethodId} {args : Array Value} {below : List Frame} {meth : Method} {c : Code} {Q : State → Prop} {A : Nat → Prop} {dC : Nat → ClassId} {dI : Nat → Nat → Nat} {Z : gZ} {cC cI cZ cW : ClassId} (hg0 : gX p s m args meth c cX5_skillsChange 6 none wsX5_skillsChange RX5 (dC, dI) Z [(cC, .char), (cI, .int), (cZ, .boolean), (cW, .object RX3)] A) (a_o a_o_text a_o_need a_o_made a_o_skillTold a_o_placeTold a_o_skips a_o_wheelTold a_o_tunes a_o_s a_o_spare a_o_kept a_o_isKept a_o_makes a_o_works a_o_order : Nat) (o_thrown : Int32) (o_trace : Int64) (o_typed : Int32) (o_next : Int32) (o_token : Int32) (o_place : Int32) (o_value : Int32) (o_fault : Int32) (o_trades : Int32) (o_people : Int32) (o_draftTrades : Int32) (o_draftPeople : Int32) (o_isShut : Int32) (o_falling : Int32) (o_tunes : Nat → Int32) (o_works : Nat → Int32) (l1 : Int32) (l2 : Int32) (l3 : Int32) (N : Nat) : ∀ (n : Nat) (o_s : Nat → Int32) (l4 : Int32) (o_s' : Nat → Int32) (l4' : Int32), fX5_skillsChange_56 N o_trades l1 l2 l3 n o_s l4 = some (o_s', l4') → ∀ (H : Heap) (locs : List Loc) (ls : Array Slot), va_P (dC, dI) vwCl [(a_o, .inr (5, [.int o_thrown, .long o_trace, .ref a_o_text, .int o_typed, .int o_next, .int o_token, .int o_place, .int o_value, .int o_fault, .ref a_o_need, .ref a_o_made, .ref a_o_skillTold, .ref a_o_placeTold, .ref a_o_skips, .ref a_o_wheelTold, .int o_trades, .int o_people, .int o_draftTrades, .int o_draftPeople, .int o_isShut, .ref a_o_tunes, .ref a_o_s, .ref a_o_spare, .ref a_o_kept, .ref a_o_isKept, .ref a_o_makes, .ref a_o_works, .ref a_o_order, .int o_falling])), (a_o_tunes, .inl (cI, 3, .inl o_tunes)), (a_o_s, .inl (cI, 105, .inl o_s)), (a_o_works, .inl (cI, 6, .inl o_works))] H → va_D A [(a_o, .inr (5, [.int o_thrown, .long o_trace, .ref a_o_text, .int o_typed, .int o_next, .int o_token, .int o_place, .int o_value, .int o_fault, .ref a_o_need, .ref a_o_made, .ref a_o_skillTold, .ref a_o_placeTold, .ref a_o_skips, .ref a_o_wheelTold, .int o_trades, .int o_people, .int o_draftTrades, .int o_draftPeople, .int o_isShut, .ref a_o_tunes, .ref a_o_s, .ref a_o_spare, .ref a_o_kept, .ref a_o_isKept, .ref a_o_makes, .ref a_o_works, .ref a_o_order, .int o_falling])), (a_o_tunes, .inl (cI, 3, .inl o_tunes)), (a_o_s, .inl (cI, 105, .inl o_s)), (a_o_works, .inl (cI, 6, .inl o_works))] → va_S A s.heap H locs → lv_has ls 6 [(0, .ref a_o), (1, .int l1), (2, .int l2), (3, .int l3), (4, .int l4)] → (∀ (H : Heap) (locs : List Loc) (ls : Array Slot), va_P (dC, dI) vwCl [(a_o, .inr (5, [.int o_thrown, .long o_trace, .ref a_o_text, .int o_typed, .int o_next, .int o_token, .int o_place, .int o_value, .int o_fault, .ref a_o_need, .ref a_o_made, .ref a_o_skillTold, .ref a_o_placeTold, .ref a_o_skips, .ref a_o_wheelTold, .int o_trades, .int o_people, .int o_draftTrades, .int o_draftPeople, .int o_isShut, .ref a_o_tunes, .ref a_o_s, .ref a_o_spare, .ref a_o_kept, .ref a_o_isKept, .ref a_o_makes, .ref a_o_works, .ref a_o_order, .int o_falling])), (a_o_tunes, .inl (cI, 3, .inl o_tunes)), (a_o_s, .inl (cI, 105, .inl o_s')), (a_o_works, .inl (cI, 6, .inl o_works))] H → va_D A [(a_o, .inr (5, [.int o_thrown, .long o_trace, .ref a_o_text, .int o_typed, .int o_next, .int o_token, .int o_place, .int o_value, .int o_fault, .ref a_o_need, .ref a_o_made, .ref a_o_skillTold, .ref a_o_placeTold, .ref a_o_skips, .ref a_o_wheelTold, .int o_trades, .int o_people, .int o_draftTrades, .int o_draftPeople, .int o_isShut, .ref a_o_tunes, .ref a_o_s, .ref a_o_spare, .ref a_o_kept, .ref a_o_isKept, .ref a_o_makes, .ref a_o_works, .ref a_o_order, .int o_falling])), (a_o_tunes, .inl (cI, 3, .inl o_tunes)), (a_o_s, .inl (cI, 105, .inl o_s')), (a_o_works, .inl (cI, 6, .inl o_works))] → va_S A s.heap H locs → lv_has ls 6 [] → W p l e (headSpec wsX5_skillsChange rmX5_skillsChange).room s m args below meth c H locs 0 0 Q (F0 m 148 ls [])) → W p l e (headSpec wsX5_skillsChange rmX5_skillsChange).room s m args below meth c H locs 0 0 Q (F0 m 56 ls []) := by
  obtain ⟨hx, hb, hr, hml, hown, hts, hlocks, hA, hK, hN⟩ := id hg0
  have hF : CallFix p m c cX5_skillsChange 6 s args wsX5_skillsChange RX5 := ⟨hx, hb, hml, hown, hts⟩
  intro n
  induction n with
  | zero =>
    intro o_s l4 o_s' l4' hf
    have hf := fX5_skillsChange_56_0.symm.trans hf
    cases hf
  | succ n ih =>
    intro o_s l4 o_s' l4' hf H locs ls hP hD hS hl kx
    have hf := fX5_skillsChange_56_s.symm.trans hf
    refine lv_iload hx hb dX5_skillsChange_56 (lv_at hl 4 rfl) ?_
    refine lv_aload_n hx hb dX5_skillsChange_58 rfl (lv_at hl 0 rfl) ?_
    refine va_get (D := (dC, dI)) (ci := 5) (v := .int o_trades) (C := RX5) (T := TX5) (N := 29) hx hb hts uX5_skillsChange_X5 hown hK hP 0 rfl rfl 15 (by decide) (hts _ mX5_skillsChange_2) (fun _ h9 => h9) rfl dX5_skillsChange_59 ?_
    refine lv_icmp_ge (tgt := 148) hx hb dX5_skillsChange_62 (by decide) (fun c_1 => ?_) (fun c_1 => ?_)
    · have hf := pit hf c_1
      have q0 := Option.some.inj hf
      obtain ⟨e0, q1⟩ := Prod.mk.inj q0
      subst e0
      subst q1
      exact kx _ _ _ hP hD hS (lv_sub hl [] rfl)
    · have hf := pif hf c_1
      refine lv_bipush (v := (33 : Int32)) hx hb dX5_skillsChange_65 (by decide) ?_
      refine lv_bipush (v := (6 : Int32)) hx hb dX5_skillsChange_67 (by decide) ?_
      refine lv_iload_n hx hb dX5_skillsChange_69 rfl (lv_at hl 1 rfl) ?_
      refine lv_imul hx hb dX5_skillsChange_70 ?_
      refine lv_iadd hx hb dX5_skillsChange_71 ?_
      refine lv_iload hx hb dX5_skillsChange_72 (lv_at hl 4 rfl) ?_
      refine lv_iadd hx hb dX5_skillsChange_74 ?_
      refine lv_istore (lv' := [(5, .int (((33 : Int32) + ((6 : Int32) * l1)) + l4)), (0, .ref a_o), (1, .int l1), (2, .int l2), (3, .int l3), (4, .int l4)]) hx hb dX5_skillsChange_75 hl (by decide) rfl (fun ls hl => ?_)
      refine lv_iload hx hb dX5_skillsChange_77 (lv_at hl 5 rfl) ?_
      refine lv_iload_n hx hb dX5_skillsChange_79 rfl (lv_at hl 3 rfl) ?_
      refine lv_icmp_ne (tgt := 113) hx hb dX5_skillsChange_80 (by decide) (fun c_2 => ?_) (fun c_2 => ?_)
      · have hf := pif hf c_2
        refine lv_iload_n hx hb dX5_skillsChange_113 rfl (lv_at hl 4 rfl) ?_
        refine lv_if_eq (tgt := 142) hx hb dX5_skillsChange_114 (by decide) (fun c_3 => ?_) (fun c_3 => ?_)
        · have hf := pit hf c_3
          refine lv_iinc (v := (l4 + 1)) (lv' := [(4, .int (l4 + 1)), (5, .int (((33 : Int32) + ((6 : Int32) * l1)) + l4)), (0, .ref a_o), (1, .int l1), (2, .int l2), (3, .int l3)]) hx hb dX5_skillsChange_142 hl (k := 5) rfl rfl (by decide) rfl (fun ls hl => ?_)
          refine lv_goto (tgt := 56) hx hb dX5_skillsChange_145 (by decide) ?_
          exact ih _ _ _ _ hf _ _ _ hP hD hS (lv_sub hl [2, 3, 4, 5, 0] rfl) kx
        · have hf := pif hf c_3
          refine lv_aload_n hx hb dX5_skillsChange_117 rfl (lv_at hl 1 rfl) ?_
          refine va_get (D := (dC, dI)) (ci := 5) (v := .ref a_o_s) (C := RX5) (T := TX5) (N := 29) hx hb hts uX5_skillsChange_X5 hown hK hP 0 rfl rfl 21 (by decide) (hts _ mX5_skillsChange_3) (fun _ h9 => h9) rfl dX5_skillsChange_118 ?_
          refine lv_iload hx hb dX5_skillsChange_121 (lv_at hl 0 rfl) ?_
          refine lv_dup2_11 hx hb dX5_skillsChange_123 rfl rfl ?_
          obtain ⟨h_4, hf⟩ := pgd hf
          refine va_iald hx hb hK hP 2 1 rfl rfl h_4 dX5_skillsChange_124 ?_
          refine lv_aload_n hx hb dX5_skillsChange_125 rfl (lv_at hl 1 rfl) ?_
          refine va_get (D := (dC, dI)) (ci := 5) (v := .ref a_o_s) (C := RX5) (T := TX5) (N := 29) hx hb hts uX5_skillsChange_X5 hown hK hP 0 rfl rfl 21 (by decide) (hts _ mX5_skillsChange_3) (fun _ h9 => h9) rfl dX5_skillsChange_126 ?_
          refine lv_iload hx hb dX5_skillsChange_129 (lv_at hl 0 rfl) ?_
          obtain ⟨h_5, hf⟩ := pgd hf
          refine va_iald hx hb hK hP 2 1 rfl rfl h_5 dX5_skillsChange_131 ?_
          refine lv_if_le (tgt := 139) hx hb dX5_skillsChange_132 (by decide) (fun c_6 => ?_) (fun c_6 => ?_)
          · have hf := pit hf c_6
            refine lv_iconst (v := (0 : Int32)) hx hb dX5_skillsChange_139 (by decide) ?_
            refine lv_isub hx hb dX5_skillsChange_140 ?_
            obtain ⟨h_7, hf⟩ := pgd hf
            refine va_iast hx hb hK hP hD hS 2 1 rfl rfl h_7 dX5_skillsChange_141 (fun H locs hP hD hS => ?_)
            have hP : va_P (dC, dI) vwCl [(a_o, .inr (5, [.int o_thrown, .long o_trace, .ref a_o_text, .int o_typed, .int o_next, .int o_token, .int o_place, .int o_value, .int o_fault, .ref a_o_need, .ref a_o_made, .ref a_o_skillTold, .ref a_o_placeTold, .ref a_o_skips, .ref a_o_wheelTold, .int o_trades, .int o_people, .int o_draftTrades, .int o_draftPeople, .int o_isShut, .ref a_o_tunes, .ref a_o_s, .ref a_o_spare, .ref a_o_kept, .ref a_o_isKept, .ref a_o_makes, .ref a_o_works, .ref a_o_order, .int o_falling])), (a_o_tunes, .inl (cI, 3, .inl o_tunes)), (a_o_s, .inl (cI, 105, .inl (upd o_s (((33 : Int32) + ((6 : Int32) * l1)) + l4).toNatClampNeg ((o_s (((33 : Int32) + ((6 : Int32) * l1)) + l4).toNatClampNeg) - (0 : Int32))))), (a_o_works, .inl (cI, 6, .inl o_works))] H := hP
            have hD : va_D A [(a_o, .inr (5, [.int o_thrown, .long o_trace, .ref a_o_text, .int o_typed, .int o_next, .int o_token, .int o_place, .int o_value, .int o_fault, .ref a_o_need, .ref a_o_made, .ref a_o_skillTold, .ref a_o_placeTold, .ref a_o_skips, .ref a_o_wheelTold, .int o_trades, .int o_people, .int o_draftTrades, .int o_draftPeople, .int o_isShut, .ref a_o_tunes, .ref a_o_s, .ref a_o_spare, .ref a_o_kept, .ref a_o_isKept, .ref a_o_makes, .ref a_o_works, .ref a_o_order, .int o_falling])), (a_o_tunes, .inl (cI, 3, .inl o_tunes)), (a_o_s, .inl (cI, 105, .inl (upd o_s (((33 : Int32) + ((6 : Int32) * l1)) + l4).toNatClampNeg ((o_s (((33 : Int32) + ((6 : Int32) * l1)) + l4).toNatClampNeg) - (0 : Int32))))), (a_o_works, .inl (cI, 6, .inl o_works))] := hD
            refine lv_iinc (v := (l4 + 1)) (lv' := [(4, .int (l4 + 1)), (5, .int (((33 : Int32) + ((6 : Int32) * l1)) + l4)), (0, .ref a_o), (1, .int l1), (2, .int l2), (3, .int l3)]) hx hb dX5_skillsChange_142 hl (k := 5) rfl rfl (by decide) rfl (fun ls hl => ?_)
            refine lv_goto (tgt := 56) hx hb dX5_skillsChange_145 (by decide) ?_
            exact ih _ _ _ _ hf _ _ _ hP hD hS (lv_sub hl [2, 3, 4, 5, 0] rfl) kx
          · have hf := pif hf c_6
            refine lv_iconst (v := (1 : Int32)) hx hb dX5_skillsChange_135 (by decide) ?_
            refine lv_goto (tgt := 140) hx hb dX5_skillsChange_136 (by decide) ?_
            refine lv_isub hx hb dX5_skillsChange_140 ?_
            obtain ⟨h_8, hf⟩ := pgd hf
            refine va_iast hx hb hK hP hD hS 2 1 rfl rfl h_8 dX5_skillsChange_141 (fun H locs hP hD hS => ?_)
            have hP : va_P (dC, dI) vwCl [(a_o, .inr (5, [.int o_thrown, .long o_trace, .ref a_o_text, .int o_typed, .int o_next, .int o_token, .int o_place, .int o_value, .int o_fault, .ref a_o_need, .ref a_o_made, .ref a_o_skillTold, .ref a_o_placeTold, .ref a_o_skips, .ref a_o_wheelTold, .int o_trades, .int o_people, .int o_draftTrades, .int o_draftPeople, .int o_isShut, .ref a_o_tunes, .ref a_o_s, .ref a_o_spare, .ref a_o_kept, .ref a_o_isKept, .ref a_o_makes, .ref a_o_works, .ref a_o_order, .int o_falling])), (a_o_tunes, .inl (cI, 3, .inl o_tunes)), (a_o_s, .inl (cI, 105, .inl (upd o_s (((33 : Int32) + ((6 : Int32) * l1)) + l4).toNatClampNeg ((o_s (((33 : Int32) + ((6 : Int32) * l1)) + l4).toNatClampNeg) - (1 : Int32))))), (a_o_works, .inl (cI, 6, .inl o_works))] H := hP
            have hD : va_D A [(a_o, .inr (5, [.int o_thrown, .long o_trace, .ref a_o_text, .int o_typed, .int o_next, .int o_token, .int o_place, .int o_value, .int o_fault, .ref a_o_need, .ref a_o_made, .ref a_o_skillTold, .ref a_o_placeTold, .ref a_o_skips, .ref a_o_wheelTold, .int o_trades, .int o_people, .int o_draftTrades, .int o_draftPeople, .int o_isShut, .ref a_o_tunes, .ref a_o_s, .ref a_o_spare, .ref a_o_kept, .ref a_o_isKept, .ref a_o_makes, .ref a_o_works, .ref a_o_order, .int o_falling])), (a_o_tunes, .inl (cI, 3, .inl o_tunes)), (a_o_s, .inl (cI, 105, .inl (upd o_s (((33 : Int32) + ((6 : Int32) * l1)) + l4).toNatClampNeg ((o_s (((33 : Int32) + ((6 : Int32) * l1)) + l4).toNatClampNeg) - (1 : Int32))))), (a_o_works, .inl (cI, 6, .inl o_works))] := hD
            refine lv_iinc (v := (l4 + 1)) (lv' := [(4, .int (l4 + 1)), (5, .int (((33 : Int32) + ((6 : Int32) * l1)) + l4)), (0, .ref a_o), (1, .int l1), (2, .int l2), (3, .int l3)]) hx hb dX5_skillsChange_142 hl (k := 5) rfl rfl (by decide) rfl (fun ls hl => ?_)
            refine lv_goto (tgt := 56) hx hb dX5_skillsChange_145 (by decide) ?_
            exact ih _ _ _ _ hf _ _ _ hP hD hS (lv_sub hl [2, 3, 4, 5, 0] rfl) kx
      · have hf := pit hf c_2
        refine lv_aload_n hx hb dX5_skillsChange_83 rfl (lv_at hl 1 rfl) ?_
        refine va_get (D := (dC, dI)) (ci := 5) (v := .ref a_o_s) (C := RX5) (T := TX5) (N := 29) hx hb hts uX5_skillsChange_X5 hown hK hP 0 rfl rfl 21 (by decide) (hts _ mX5_skillsChange_3) (fun _ h9 => h9) rfl dX5_skillsChange_84 ?_
        refine lv_iload hx hb dX5_skillsChange_87 (lv_at hl 0 rfl) ?_
        refine lv_dup2_11 hx hb dX5_skillsChange_89 rfl rfl ?_
        obtain ⟨h_9, hf⟩ := pgd hf
        refine va_iald hx hb hK hP 2 1 rfl rfl h_9 dX5_skillsChange_90 ?_
        refine lv_aload_n hx hb dX5_skillsChange_91 rfl (lv_at hl 1 rfl) ?_
        refine va_get (D := (dC, dI)) (ci := 5) (v := .ref a_o_s) (C := RX5) (T := TX5) (N := 29) hx hb hts uX5_skillsChange_X5 hown hK hP 0 rfl rfl 21 (by decide) (hts _ mX5_skillsChange_3) (fun _ h9 => h9) rfl dX5_skillsChange_92 ?_
        refine lv_iload hx hb dX5_skillsChange_95 (lv_at hl 0 rfl) ?_
        obtain ⟨h_10, hf⟩ := pgd hf
        refine va_iald hx hb hK hP 2 1 rfl rfl h_10 dX5_skillsChange_97 ?_
        refine lv_bipush (v := (9 : Int32)) hx hb dX5_skillsChange_98 (by decide) ?_
        refine lv_icmp_ge (tgt := 107) hx hb dX5_skillsChange_100 (by decide) (fun c_11 => ?_) (fun c_11 => ?_)
        · have hf := pit hf c_11
          refine lv_iconst (v := (0 : Int32)) hx hb dX5_skillsChange_107 (by decide) ?_
          refine lv_iadd hx hb dX5_skillsChange_108 ?_
          obtain ⟨h_12, hf⟩ := pgd hf
          refine va_iast hx hb hK hP hD hS 2 1 rfl rfl h_12 dX5_skillsChange_109 (fun H locs hP hD hS => ?_)
          have hP : va_P (dC, dI) vwCl [(a_o, .inr (5, [.int o_thrown, .long o_trace, .ref a_o_text, .int o_typed, .int o_next, .int o_token, .int o_place, .int o_value, .int o_fault, .ref a_o_need, .ref a_o_made, .ref a_o_skillTold, .ref a_o_placeTold, .ref a_o_skips, .ref a_o_wheelTold, .int o_trades, .int o_people, .int o_draftTrades, .int o_draftPeople, .int o_isShut, .ref a_o_tunes, .ref a_o_s, .ref a_o_spare, .ref a_o_kept, .ref a_o_isKept, .ref a_o_makes, .ref a_o_works, .ref a_o_order, .int o_falling])), (a_o_tunes, .inl (cI, 3, .inl o_tunes)), (a_o_s, .inl (cI, 105, .inl (upd o_s (((33 : Int32) + ((6 : Int32) * l1)) + l4).toNatClampNeg ((o_s (((33 : Int32) + ((6 : Int32) * l1)) + l4).toNatClampNeg) + (0 : Int32))))), (a_o_works, .inl (cI, 6, .inl o_works))] H := hP
          have hD : va_D A [(a_o, .inr (5, [.int o_thrown, .long o_trace, .ref a_o_text, .int o_typed, .int o_next, .int o_token, .int o_place, .int o_value, .int o_fault, .ref a_o_need, .ref a_o_made, .ref a_o_skillTold, .ref a_o_placeTold, .ref a_o_skips, .ref a_o_wheelTold, .int o_trades, .int o_people, .int o_draftTrades, .int o_draftPeople, .int o_isShut, .ref a_o_tunes, .ref a_o_s, .ref a_o_spare, .ref a_o_kept, .ref a_o_isKept, .ref a_o_makes, .ref a_o_works, .ref a_o_order, .int o_falling])), (a_o_tunes, .inl (cI, 3, .inl o_tunes)), (a_o_s, .inl (cI, 105, .inl (upd o_s (((33 : Int32) + ((6 : Int32) * l1)) + l4).toNatClampNeg ((o_s (((33 : Int32) + ((6 : Int32) * l1)) + l4).toNatClampNeg) + (0 : Int32))))), (a_o_works, .inl (cI, 6, .inl o_works))] := hD
          refine lv_goto (tgt := 142) hx hb dX5_skillsChange_110 (by decide) ?_
          refine lv_iinc (v := (l4 + 1)) (lv' := [(4, .int (l4 + 1)), (5, .int (((33 : Int32) + ((6 : Int32) * l1)) + l4)), (0, .ref a_o), (1, .int l1), (2, .int l2), (3, .int l3)]) hx hb dX5_skillsChange_142 hl (k := 5) rfl rfl (by decide) rfl (fun ls hl => ?_)
          refine lv_goto (tgt := 56) hx hb dX5_skillsChange_145 (by decide) ?_
          exact ih _ _ _ _ hf _ _ _ hP hD hS (lv_sub hl [2, 3, 4, 5, 0] rfl) kx
        · have hf := pif hf c_11
          refine lv_iconst (v := (1 : Int32)) hx hb dX5_skillsChange_103 (by decide) ?_
          refine lv_goto (tgt := 108) hx hb dX5_skillsChange_104 (by decide) ?_
          refine lv_iadd hx hb dX5_skillsChange_108 ?_
          obtain ⟨h_13, hf⟩ := pgd hf
          refine va_iast hx hb hK hP hD hS 2 1 rfl rfl h_13 dX5_skillsChange_109 (fun H locs hP hD hS => ?_)
          have hP : va_P (dC, dI) vwCl [(a_o, .inr (5, [.int o_thrown, .long o_trace, .ref a_o_text, .int o_typed, .int o_next, .int o_token, .int o_place, .int o_value, .int o_fault, .ref a_o_need, .ref a_o_made, .ref a_o_skillTold, .ref a_o_placeTold, .ref a_o_skips, .ref a_o_wheelTold, .int o_trades, .int o_people, .int o_draftTrades, .int o_draftPeople, .int o_isShut, .ref a_o_tunes, .ref a_o_s, .ref a_o_spare, .ref a_o_kept, .ref a_o_isKept, .ref a_o_makes, .ref a_o_works, .ref a_o_order, .int o_falling])), (a_o_tunes, .inl (cI, 3, .inl o_tunes)), (a_o_s, .inl (cI, 105, .inl (upd o_s (((33 : Int32) + ((6 : Int32) * l1)) + l4).toNatClampNeg ((o_s (((33 : Int32) + ((6 : Int32) * l1)) + l4).toNatClampNeg) + (1 : Int32))))), (a_o_works, .inl (cI, 6, .inl o_works))] H := hP
          have hD : va_D A [(a_o, .inr (5, [.int o_thrown, .long o_trace, .ref a_o_text, .int o_typed, .int o_next, .int o_token, .int o_place, .int o_value, .int o_fault, .ref a_o_need, .ref a_o_made, .ref a_o_skillTold, .ref a_o_placeTold, .ref a_o_skips, .ref a_o_wheelTold, .int o_trades, .int o_people, .int o_draftTrades, .int o_draftPeople, .int o_isShut, .ref a_o_tunes, .ref a_o_s, .ref a_o_spare, .ref a_o_kept, .ref a_o_isKept, .ref a_o_makes, .ref a_o_works, .ref a_o_order, .int o_falling])), (a_o_tunes, .inl (cI, 3, .inl o_tunes)), (a_o_s, .inl (cI, 105, .inl (upd o_s (((33 : Int32) + ((6 : Int32) * l1)) + l4).toNatClampNeg ((o_s (((33 : Int32) + ((6 : Int32) * l1)) + l4).toNatClampNeg) + (1 : Int32))))), (a_o_works, .inl (cI, 6, .inl o_works))] := hD
          refine lv_goto (tgt := 142) hx hb dX5_skillsChange_110 (by decide) ?_
          refine lv_iinc (v := (l4 + 1)) (lv' := [(4, .int (l4 + 1)), (5, .int (((33 : Int32) + ((6 : Int32) * l1)) + l4)), (0, .ref a_o), (1, .int l1), (2, .int l2), (3, .int l3)]) hx hb dX5_skillsChange_142 hl (k := 5) rfl rfl (by decide) rfl (fun ls hl => ?_)
          refine lv_goto (tgt := 56) hx hb dX5_skillsChange_145 (by decide) ?_
          exact ih _ _ _ _ hf _ _ _ hP hD hS (lv_sub hl [2, 3, 4, 5, 0] rfl) kx
set_option maxHeartbeats 4000000 in
set_option maxRecDepth 100000 in
theorem kX5_skillsChange (l : Launch) (dC : Nat → ClassId) (dI : Nat → Nat → Nat) (Z : gZ) (cC cI cZ cW : ClassId) (a_o a_o_text a_o_need a_o_made a_o_skillTold a_o_placeTold a_o_skips a_o_wheelTold a_o_tunes a_o_s a_o_spare a_o_kept a_o_isKept a_o_makes a_o_works a_o_order : Nat) (sz : Nat) (o_thrown : Int32) (o_trace : Int64) (o_typed : Int32) (o_next : Int32) (o_token : Int32) (o_place : Int32) (o_value : Int32) (o_fault : Int32) (o_trades : Int32) (o_people : Int32) (o_draftTrades : Int32) (o_draftPeople : Int32) (o_isShut : Int32) (o_falling : Int32) (o_tunes : Nat → Int32) (o_s : Nat → Int32) (o_works : Nat → Int32) (i1 : Int32) (N : Nat) (o_s' : Nat → Int32) (hf : fX5_skillsChange N o_trades o_tunes o_s o_works  i1 = some o_s') : Met l yX5_skillsChange wsX5_skillsChange rmX5_skillsChange (va_Pc [.ref a_o, .int i1] (gB (dC, dI) Z [(cC, .char), (cI, .int), (cZ, .boolean), (cW, .object RX3)] [(a_o, .inr (5, [.int o_thrown, .long o_trace, .ref a_o_text, .int o_typed, .int o_next, .int o_token, .int o_place, .int o_value, .int o_fault, .ref a_o_need, .ref a_o_made, .ref a_o_skillTold, .ref a_o_placeTold, .ref a_o_skips, .ref a_o_wheelTold, .int o_trades, .int o_people, .int o_draftTrades, .int o_draftPeople, .int o_isShut, .ref a_o_tunes, .ref a_o_s, .ref a_o_spare, .ref a_o_kept, .ref a_o_isKept, .ref a_o_makes, .ref a_o_works, .ref a_o_order, .int o_falling])), (a_o_tunes, .inl (cI, 3, .inl o_tunes)), (a_o_s, .inl (cI, 105, .inl o_s)), (a_o_works, .inl (cI, 6, .inl o_works))] sz)) (va_Qv (fun (_ : Unit) => True) (gE (dC, dI) [(a_o, .inr (5, [.int o_thrown, .long o_trace, .ref a_o_text, .int o_typed, .int o_next, .int o_token, .int o_place, .int o_value, .int o_fault, .ref a_o_need, .ref a_o_made, .ref a_o_skillTold, .ref a_o_placeTold, .ref a_o_skips, .ref a_o_wheelTold, .int o_trades, .int o_people, .int o_draftTrades, .int o_draftPeople, .int o_isShut, .ref a_o_tunes, .ref a_o_s, .ref a_o_spare, .ref a_o_kept, .ref a_o_isKept, .ref a_o_makes, .ref a_o_works, .ref a_o_order, .int o_falling])), (a_o_tunes, .inl (cI, 3, .inl o_tunes)), (a_o_s, .inl (cI, 105, .inl o_s')), (a_o_works, .inl (cI, 6, .inl o_works))]) (va_A [(a_o, .inr (5, [.int o_thrown, .long o_trace, .ref a_o_text, .int o_typed, .int o_next, .int o_token, .int o_place, .int o_value, .int o_fault, .ref a_o_need, .ref a_o_made, .ref a_o_skillTold, .ref a_o_placeTold, .ref a_o_skips, .ref a_o_wheelTold, .int o_trades, .int o_people, .int o_draftTrades, .int o_draftPeople, .int o_isShut, .ref a_o_tunes, .ref a_o_s, .ref a_o_spare, .ref a_o_kept, .ref a_o_isKept, .ref a_o_makes, .ref a_o_works, .ref a_o_order, .int o_falling])), (a_o_tunes, .inl (cI, 3, .inl o_tunes)), (a_o_s, .inl (cI, 105, .inl o_s)), (a_o_works, .inl (cI, 6, .inl o_works))] sz)) 0 0 (va_A [(a_o, .inr (5, [.int o_thrown, .long o_trace, .ref a_o_text, .int o_typed, .int o_next, .int o_token, .int o_place, .int o_value, .int o_fault, .ref a_o_need, .ref a_o_made, .ref a_o_skillTold, .ref a_o_placeTold, .ref a_o_skips, .ref a_o_wheelTold, .int o_trades, .int o_people, .int o_draftTrades, .int o_draftPeople, .int o_isShut, .ref a_o_tunes, .ref a_o_s, .ref a_o_spare, .ref a_o_kept, .ref a_o_isKept, .ref a_o_makes, .ref a_o_works, .ref a_o_order, .int o_falling])), (a_o_tunes, .inl (cI, 3, .inl o_tunes)), (a_o_s, .inl (cI, 105, .inl o_s)), (a_o_works, .inl (cI, 6, .inl o_works))] sz) := by
  refine gMet (cc := cX5_skillsChange) (maxL := 6) (ret := none) (Qc := fun A => va_Qv (fun (_ : Unit) => True) (gE (dC, dI) [(a_o, .inr (5, [.int o_thrown, .long o_trace, .ref a_o_text, .int o_typed, .int o_next, .int o_token, .int o_place, .int o_value, .int o_fault, .ref a_o_need, .ref a_o_made, .ref a_o_skillTold, .ref a_o_placeTold, .ref a_o_skips, .ref a_o_wheelTold, .int o_trades, .int o_people, .int o_draftTrades, .int o_draftPeople, .int o_isShut, .ref a_o_tunes, .ref a_o_s, .ref a_o_spare, .ref a_o_kept, .ref a_o_isKept, .ref a_o_makes, .ref a_o_works, .ref a_o_order, .int o_falling])), (a_o_tunes, .inl (cI, 3, .inl o_tunes)), (a_o_s, .inl (cI, 105, .inl o_s')), (a_o_works, .inl (cI, 6, .inl o_works))]) A) (by decide) rfl (Nat.le_of_ble_eq_true rfl) ?_
  intro p e s m below meth c A ls hg0 _ hsz hP hD hS hl
  have hg0 : gX p s m _ meth c cX5_skillsChange 6 none wsX5_skillsChange RX5 (dC, dI) Z [(cC, .char), (cI, .int), (cZ, .boolean), (cW, .object RX3)] A := hg0
  obtain ⟨hx, hb, hr, hml, hown, hts, hlocks, hA, hK, hN⟩ := id hg0
  subst hsz
  have hF : CallFix p m c cX5_skillsChange 6 s _ wsX5_skillsChange RX5 := ⟨hx, hb, hml, hown, hts⟩
  have hl : lv_has ls 6 [(0, .ref a_o), (1, .int i1)] := hl
  unfold fX5_skillsChange at hf
  refine lv_aload_n hx hb dX5_skillsChange_0 rfl (lv_at hl 0 rfl) ?_
  refine lv_iload_n hx hb dX5_skillsChange_1 rfl (lv_at hl 1 rfl) ?_
  obtain ⟨r_1, hc, hf⟩ := pb1 hf
  refine gCi (va_runV (As := [.int i1]) (rest := []) hF (kX5_isIll l dC dI Z cC cI cZ cW a_o a_o_text a_o_need a_o_made a_o_skillTold a_o_placeTold a_o_skips a_o_wheelTold a_o_tunes a_o_s a_o_spare a_o_kept a_o_isKept a_o_makes a_o_works a_o_order _ o_thrown o_trace o_typed o_next o_token o_place o_value o_fault o_trades o_people o_draftTrades o_draftPeople o_isShut o_falling o_s i1 N r_1 hc) (cwV 1 hts gX5_skillsChange_X5_isIll rfl rfl rfl (by decide +kernel) ⟨Nat.le_of_ble_eq_true rfl, Nat.le_of_ble_eq_true rfl⟩) (gPV (wc := [(a_o, .inr (5, [.int o_thrown, .long o_trace, .ref a_o_text, .int o_typed, .int o_next, .int o_token, .int o_place, .int o_value, .int o_fault, .ref a_o_need, .ref a_o_made, .ref a_o_skillTold, .ref a_o_placeTold, .ref a_o_skips, .ref a_o_wheelTold, .int o_trades, .int o_people, .int o_draftTrades, .int o_draftPeople, .int o_isShut, .ref a_o_tunes, .ref a_o_s, .ref a_o_spare, .ref a_o_kept, .ref a_o_isKept, .ref a_o_makes, .ref a_o_works, .ref a_o_order, .int o_falling])), (a_o_s, .inl (cI, 105, .inl o_s))]) hK hN hA hS hP hD [0, 2] rfl rfl (q0 := 0) (ci := 5) rfl rfl rfl) rfl rfl hl.1 rfl (lv_room (Nat.le_of_ble_eq_true rfl)) dX5_skillsChange_2 ⟨Nat.zero_le _, Nat.zero_le _⟩) hP hD hS hA [0, 2] rfl rfl rfl (fun H locs hP hD hS => ?_)
  have hP : va_P (dC, dI) vwCl [(a_o, .inr (5, [.int o_thrown, .long o_trace, .ref a_o_text, .int o_typed, .int o_next, .int o_token, .int o_place, .int o_value, .int o_fault, .ref a_o_need, .ref a_o_made, .ref a_o_skillTold, .ref a_o_placeTold, .ref a_o_skips, .ref a_o_wheelTold, .int o_trades, .int o_people, .int o_draftTrades, .int o_draftPeople, .int o_isShut, .ref a_o_tunes, .ref a_o_s, .ref a_o_spare, .ref a_o_kept, .ref a_o_isKept, .ref a_o_makes, .ref a_o_works, .ref a_o_order, .int o_falling])), (a_o_tunes, .inl (cI, 3, .inl o_tunes)), (a_o_s, .inl (cI, 105, .inl o_s)), (a_o_works, .inl (cI, 6, .inl o_works))] H := hP
  have hD : va_D A [(a_o, .inr (5, [.int o_thrown, .long o_trace, .ref a_o_text, .int o_typed, .int o_next, .int o_token, .int o_place, .int o_value, .int o_fault, .ref a_o_need, .ref a_o_made, .ref a_o_skillTold, .ref a_o_placeTold, .ref a_o_skips, .ref a_o_wheelTold, .int o_trades, .int o_people, .int o_draftTrades, .int o_draftPeople, .int o_isShut, .ref a_o_tunes, .ref a_o_s, .ref a_o_spare, .ref a_o_kept, .ref a_o_isKept, .ref a_o_makes, .ref a_o_works, .ref a_o_order, .int o_falling])), (a_o_tunes, .inl (cI, 3, .inl o_tunes)), (a_o_s, .inl (cI, 105, .inl o_s)), (a_o_works, .inl (cI, 6, .inl o_works))] := hD
  refine lv_if_eq (tgt := 13) hx hb dX5_skillsChange_5 (by decide) (fun c_2 => ?_) (fun c_2 => ?_)
  · have hf := pit hf c_2
    refine lv_aload_n hx hb dX5_skillsChange_13 rfl (lv_at hl 0 rfl) ?_
    refine va_get (D := (dC, dI)) (ci := 5) (v := .ref a_o_works) (C := RX5) (T := TX5) (N := 29) hx hb hts uX5_skillsChange_X5 hown hK hP 0 rfl rfl 26 (by decide) (hts _ mX5_skillsChange_0) (fun _ h9 => h9) rfl dX5_skillsChange_14 ?_
    refine lv_iload_n hx hb dX5_skillsChange_17 rfl (lv_at hl 1 rfl) ?_
    obtain ⟨h_3, hf⟩ := pgd hf
    refine va_iald hx hb hK hP 3 1 rfl rfl h_3 dX5_skillsChange_18 ?_
    refine lv_istore_n (lv' := [(2, .int (o_works i1.toNatClampNeg)), (0, .ref a_o), (1, .int i1)]) hx hb dX5_skillsChange_19 rfl hl (by decide) rfl (fun ls hl => ?_)
    refine lv_aload_n hx hb dX5_skillsChange_20 rfl (lv_at hl 1 rfl) ?_
    refine va_get (D := (dC, dI)) (ci := 5) (v := .ref a_o_tunes) (C := RX5) (T := TX5) (N := 29) hx hb hts uX5_skillsChange_X5 hown hK hP 0 rfl rfl 20 (by decide) (hts _ mX5_skillsChange_1) (fun _ h9 => h9) rfl dX5_skillsChange_21 ?_
    refine lv_iconst (v := (0 : Int32)) hx hb dX5_skillsChange_24 (by decide) ?_
    obtain ⟨h_4, hf⟩ := pgd hf
    refine va_iald hx hb hK hP 1 1 rfl rfl h_4 dX5_skillsChange_25 ?_
    refine lv_if_le (tgt := 51) hx hb dX5_skillsChange_26 (by decide) (fun c_5 => ?_) (fun c_5 => ?_)
    · have hf := pit hf c_5
      refine lv_iconst (v := (0 : Int32)) hx hb dX5_skillsChange_51 (by decide) ?_
      refine lv_istore_n (lv' := [(3, .int (0 : Int32)), (2, .int (o_works i1.toNatClampNeg)), (0, .ref a_o), (1, .int i1)]) hx hb dX5_skillsChange_52 rfl hl (by decide) rfl (fun ls hl => ?_)
      refine lv_iconst (v := (0 : Int32)) hx hb dX5_skillsChange_53 (by decide) ?_
      refine lv_istore (lv' := [(4, .int (0 : Int32)), (3, .int (0 : Int32)), (2, .int (o_works i1.toNatClampNeg)), (0, .ref a_o), (1, .int i1)]) hx hb dX5_skillsChange_54 hl (by decide) rfl (fun ls hl => ?_)
      obtain ⟨o_s_6, l4_7, hc, hf⟩ := pb2 hf
      refine wX5_skillsChange_56 hg0 a_o a_o_text a_o_need a_o_made a_o_skillTold a_o_placeTold a_o_skips a_o_wheelTold a_o_tunes a_o_s a_o_spare a_o_kept a_o_isKept a_o_makes a_o_works a_o_order o_thrown o_trace o_typed o_next o_token o_place o_value o_fault o_trades o_people o_draftTrades o_draftPeople o_isShut o_falling o_tunes o_works i1 (o_works i1.toNatClampNeg) (0 : Int32) N N o_s (0 : Int32) o_s_6 l4_7 hc _ _ _ hP hD hS (lv_sub hl [3, 4, 2, 1, 0] rfl) (fun H locs ls hP hD hS hl => ?_)
      have q0 := Option.some.inj hf
      subst q0
      exact gRv hx hb hr hlocks hP hS dX5_skillsChange_148
    · have hf := pif hf c_5
      refine lv_aload_n hx hb dX5_skillsChange_29 rfl (lv_at hl 1 rfl) ?_
      refine va_get (D := (dC, dI)) (ci := 5) (v := .ref a_o_s) (C := RX5) (T := TX5) (N := 29) hx hb hts uX5_skillsChange_X5 hown hK hP 0 rfl rfl 21 (by decide) (hts _ mX5_skillsChange_3) (fun _ h9 => h9) rfl dX5_skillsChange_30 ?_
      refine lv_iconst (v := (0 : Int32)) hx hb dX5_skillsChange_33 (by decide) ?_
      obtain ⟨h_8, hf⟩ := pgd hf
      refine va_iald hx hb hK hP 2 1 rfl rfl h_8 dX5_skillsChange_34 ?_
      refine lv_iconst (v := (1 : Int32)) hx hb dX5_skillsChange_35 (by decide) ?_
      refine lv_iadd hx hb dX5_skillsChange_36 ?_
      refine lv_aload_n hx hb dX5_skillsChange_37 rfl (lv_at hl 1 rfl) ?_
      refine va_get (D := (dC, dI)) (ci := 5) (v := .ref a_o_tunes) (C := RX5) (T := TX5) (N := 29) hx hb hts uX5_skillsChange_X5 hown hK hP 0 rfl rfl 20 (by decide) (hts _ mX5_skillsChange_1) (fun _ h9 => h9) rfl dX5_skillsChange_38 ?_
      refine lv_iconst (v := (0 : Int32)) hx hb dX5_skillsChange_41 (by decide) ?_
      obtain ⟨h_9, hf⟩ := pgd hf
      refine va_iald hx hb hK hP 1 1 rfl rfl h_9 dX5_skillsChange_42 ?_
      obtain ⟨hz_10, hf⟩ := pgz hf
      refine lv_irem hx hb dX5_skillsChange_43 hz_10 ?_
      refine lv_if_ne (tgt := 51) hx hb dX5_skillsChange_44 (by decide) (fun c_11 => ?_) (fun c_11 => ?_)
      · have hf := pif hf c_11
        refine lv_iconst (v := (0 : Int32)) hx hb dX5_skillsChange_51 (by decide) ?_
        refine lv_istore_n (lv' := [(3, .int (0 : Int32)), (2, .int (o_works i1.toNatClampNeg)), (0, .ref a_o), (1, .int i1)]) hx hb dX5_skillsChange_52 rfl hl (by decide) rfl (fun ls hl => ?_)
        refine lv_iconst (v := (0 : Int32)) hx hb dX5_skillsChange_53 (by decide) ?_
        refine lv_istore (lv' := [(4, .int (0 : Int32)), (3, .int (0 : Int32)), (2, .int (o_works i1.toNatClampNeg)), (0, .ref a_o), (1, .int i1)]) hx hb dX5_skillsChange_54 hl (by decide) rfl (fun ls hl => ?_)
        obtain ⟨o_s_12, l4_13, hc, hf⟩ := pb2 hf
        refine wX5_skillsChange_56 hg0 a_o a_o_text a_o_need a_o_made a_o_skillTold a_o_placeTold a_o_skips a_o_wheelTold a_o_tunes a_o_s a_o_spare a_o_kept a_o_isKept a_o_makes a_o_works a_o_order o_thrown o_trace o_typed o_next o_token o_place o_value o_fault o_trades o_people o_draftTrades o_draftPeople o_isShut o_falling o_tunes o_works i1 (o_works i1.toNatClampNeg) (0 : Int32) N N o_s (0 : Int32) o_s_12 l4_13 hc _ _ _ hP hD hS (lv_sub hl [3, 4, 2, 1, 0] rfl) (fun H locs ls hP hD hS hl => ?_)
        have q0 := Option.some.inj hf
        subst q0
        exact gRv hx hb hr hlocks hP hS dX5_skillsChange_148
      · have hf := pit hf c_11
        refine lv_iconst (v := (1 : Int32)) hx hb dX5_skillsChange_47 (by decide) ?_
        refine lv_goto (tgt := 52) hx hb dX5_skillsChange_48 (by decide) ?_
        refine lv_istore_n (lv' := [(3, .int (1 : Int32)), (2, .int (o_works i1.toNatClampNeg)), (0, .ref a_o), (1, .int i1)]) hx hb dX5_skillsChange_52 rfl hl (by decide) rfl (fun ls hl => ?_)
        refine lv_iconst (v := (0 : Int32)) hx hb dX5_skillsChange_53 (by decide) ?_
        refine lv_istore (lv' := [(4, .int (0 : Int32)), (3, .int (1 : Int32)), (2, .int (o_works i1.toNatClampNeg)), (0, .ref a_o), (1, .int i1)]) hx hb dX5_skillsChange_54 hl (by decide) rfl (fun ls hl => ?_)
        obtain ⟨o_s_14, l4_15, hc, hf⟩ := pb2 hf
        refine wX5_skillsChange_56 hg0 a_o a_o_text a_o_need a_o_made a_o_skillTold a_o_placeTold a_o_skips a_o_wheelTold a_o_tunes a_o_s a_o_spare a_o_kept a_o_isKept a_o_makes a_o_works a_o_order o_thrown o_trace o_typed o_next o_token o_place o_value o_fault o_trades o_people o_draftTrades o_draftPeople o_isShut o_falling o_tunes o_works i1 (o_works i1.toNatClampNeg) (1 : Int32) N N o_s (0 : Int32) o_s_14 l4_15 hc _ _ _ hP hD hS (lv_sub hl [3, 4, 2, 1, 0] rfl) (fun H locs ls hP hD hS hl => ?_)
        have q0 := Option.some.inj hf
        subst q0
        exact gRv hx hb hr hlocks hP hS dX5_skillsChange_148
  · have hf := pif hf c_2
    refine lv_bipush (v := (-9 : Int32)) hx hb dX5_skillsChange_8 (by decide) ?_
    refine lv_goto (tgt := 19) hx hb dX5_skillsChange_10 (by decide) ?_
    refine lv_istore_n (lv' := [(2, .int (-9 : Int32)), (0, .ref a_o), (1, .int i1)]) hx hb dX5_skillsChange_19 rfl hl (by decide) rfl (fun ls hl => ?_)
    refine lv_aload_n hx hb dX5_skillsChange_20 rfl (lv_at hl 1 rfl) ?_
    refine va_get (D := (dC, dI)) (ci := 5) (v := .ref a_o_tunes) (C := RX5) (T := TX5) (N := 29) hx hb hts uX5_skillsChange_X5 hown hK hP 0 rfl rfl 20 (by decide) (hts _ mX5_skillsChange_1) (fun _ h9 => h9) rfl dX5_skillsChange_21 ?_
    refine lv_iconst (v := (0 : Int32)) hx hb dX5_skillsChange_24 (by decide) ?_
    obtain ⟨h_16, hf⟩ := pgd hf
    refine va_iald hx hb hK hP 1 1 rfl rfl h_16 dX5_skillsChange_25 ?_
    refine lv_if_le (tgt := 51) hx hb dX5_skillsChange_26 (by decide) (fun c_17 => ?_) (fun c_17 => ?_)
    · have hf := pit hf c_17
      refine lv_iconst (v := (0 : Int32)) hx hb dX5_skillsChange_51 (by decide) ?_
      refine lv_istore_n (lv' := [(3, .int (0 : Int32)), (2, .int (-9 : Int32)), (0, .ref a_o), (1, .int i1)]) hx hb dX5_skillsChange_52 rfl hl (by decide) rfl (fun ls hl => ?_)
      refine lv_iconst (v := (0 : Int32)) hx hb dX5_skillsChange_53 (by decide) ?_
      refine lv_istore (lv' := [(4, .int (0 : Int32)), (3, .int (0 : Int32)), (2, .int (-9 : Int32)), (0, .ref a_o), (1, .int i1)]) hx hb dX5_skillsChange_54 hl (by decide) rfl (fun ls hl => ?_)
      obtain ⟨o_s_18, l4_19, hc, hf⟩ := pb2 hf
      refine wX5_skillsChange_56 hg0 a_o a_o_text a_o_need a_o_made a_o_skillTold a_o_placeTold a_o_skips a_o_wheelTold a_o_tunes a_o_s a_o_spare a_o_kept a_o_isKept a_o_makes a_o_works a_o_order o_thrown o_trace o_typed o_next o_token o_place o_value o_fault o_trades o_people o_draftTrades o_draftPeople o_isShut o_falling o_tunes o_works i1 (-9 : Int32) (0 : Int32) N N o_s (0 : Int32) o_s_18 l4_19 hc _ _ _ hP hD hS (lv_sub hl [3, 4, 2, 1, 0] rfl) (fun H locs ls hP hD hS hl => ?_)
      have q0 := Option.some.inj hf
      subst q0
      exact gRv hx hb hr hlocks hP hS dX5_skillsChange_148
    · have hf := pif hf c_17
      refine lv_aload_n hx hb dX5_skillsChange_29 rfl (lv_at hl 1 rfl) ?_
      refine va_get (D := (dC, dI)) (ci := 5) (v := .ref a_o_s) (C := RX5) (T := TX5) (N := 29) hx hb hts uX5_skillsChange_X5 hown hK hP 0 rfl rfl 21 (by decide) (hts _ mX5_skillsChange_3) (fun _ h9 => h9) rfl dX5_skillsChange_30 ?_
      refine lv_iconst (v := (0 : Int32)) hx hb dX5_skillsChange_33 (by decide) ?_
      obtain ⟨h_20, hf⟩ := pgd hf
      refine va_iald hx hb hK hP 2 1 rfl rfl h_20 dX5_skillsChange_34 ?_
      refine lv_iconst (v := (1 : Int32)) hx hb dX5_skillsChange_35 (by decide) ?_
      refine lv_iadd hx hb dX5_skillsChange_36 ?_
      refine lv_aload_n hx hb dX5_skillsChange_37 rfl (lv_at hl 1 rfl) ?_
      refine va_get (D := (dC, dI)) (ci := 5) (v := .ref a_o_tunes) (C := RX5) (T := TX5) (N := 29) hx hb hts uX5_skillsChange_X5 hown hK hP 0 rfl rfl 20 (by decide) (hts _ mX5_skillsChange_1) (fun _ h9 => h9) rfl dX5_skillsChange_38 ?_
      refine lv_iconst (v := (0 : Int32)) hx hb dX5_skillsChange_41 (by decide) ?_
      obtain ⟨h_21, hf⟩ := pgd hf
      refine va_iald hx hb hK hP 1 1 rfl rfl h_21 dX5_skillsChange_42 ?_
      obtain ⟨hz_22, hf⟩ := pgz hf
      refine lv_irem hx hb dX5_skillsChange_43 hz_22 ?_
      refine lv_if_ne (tgt := 51) hx hb dX5_skillsChange_44 (by decide) (fun c_23 => ?_) (fun c_23 => ?_)
      · have hf := pif hf c_23
        refine lv_iconst (v := (0 : Int32)) hx hb dX5_skillsChange_51 (by decide) ?_
        refine lv_istore_n (lv' := [(3, .int (0 : Int32)), (2, .int (-9 : Int32)), (0, .ref a_o), (1, .int i1)]) hx hb dX5_skillsChange_52 rfl hl (by decide) rfl (fun ls hl => ?_)
        refine lv_iconst (v := (0 : Int32)) hx hb dX5_skillsChange_53 (by decide) ?_
        refine lv_istore (lv' := [(4, .int (0 : Int32)), (3, .int (0 : Int32)), (2, .int (-9 : Int32)), (0, .ref a_o), (1, .int i1)]) hx hb dX5_skillsChange_54 hl (by decide) rfl (fun ls hl => ?_)
        obtain ⟨o_s_24, l4_25, hc, hf⟩ := pb2 hf
        refine wX5_skillsChange_56 hg0 a_o a_o_text a_o_need a_o_made a_o_skillTold a_o_placeTold a_o_skips a_o_wheelTold a_o_tunes a_o_s a_o_spare a_o_kept a_o_isKept a_o_makes a_o_works a_o_order o_thrown o_trace o_typed o_next o_token o_place o_value o_fault o_trades o_people o_draftTrades o_draftPeople o_isShut o_falling o_tunes o_works i1 (-9 : Int32) (0 : Int32) N N o_s (0 : Int32) o_s_24 l4_25 hc _ _ _ hP hD hS (lv_sub hl [3, 4, 2, 1, 0] rfl) (fun H locs ls hP hD hS hl => ?_)
        have q0 := Option.some.inj hf
        subst q0
        exact gRv hx hb hr hlocks hP hS dX5_skillsChange_148
      · have hf := pit hf c_23
        refine lv_iconst (v := (1 : Int32)) hx hb dX5_skillsChange_47 (by decide) ?_
        refine lv_goto (tgt := 52) hx hb dX5_skillsChange_48 (by decide) ?_
        refine lv_istore_n (lv' := [(3, .int (1 : Int32)), (2, .int (-9 : Int32)), (0, .ref a_o), (1, .int i1)]) hx hb dX5_skillsChange_52 rfl hl (by decide) rfl (fun ls hl => ?_)
        refine lv_iconst (v := (0 : Int32)) hx hb dX5_skillsChange_53 (by decide) ?_
        refine lv_istore (lv' := [(4, .int (0 : Int32)), (3, .int (1 : Int32)), (2, .int (-9 : Int32)), (0, .ref a_o), (1, .int i1)]) hx hb dX5_skillsChange_54 hl (by decide) rfl (fun ls hl => ?_)
        obtain ⟨o_s_26, l4_27, hc, hf⟩ := pb2 hf
        refine wX5_skillsChange_56 hg0 a_o a_o_text a_o_need a_o_made a_o_skillTold a_o_placeTold a_o_skips a_o_wheelTold a_o_tunes a_o_s a_o_spare a_o_kept a_o_isKept a_o_makes a_o_works a_o_order o_thrown o_trace o_typed o_next o_token o_place o_value o_fault o_trades o_people o_draftTrades o_draftPeople o_isShut o_falling o_tunes o_works i1 (-9 : Int32) (1 : Int32) N N o_s (0 : Int32) o_s_26 l4_27 hc _ _ _ hP hD hS (lv_sub hl [3, 4, 2, 1, 0] rfl) (fun H locs ls hP hD hS hl => ?_)
        have q0 := Option.some.inj hf
        subst q0
        exact gRv hx hb hr hlocks hP hS dX5_skillsChange_148
abbrev rmX5_goesBy : Room := { frames := 3, cells := 0, slots := 0, locals := 70 }
set_option maxRecDepth 20000 in
theorem uX5_goesBy_X5 : ∀ w ∈ wsX50, w ∈ wsX5_goesBy := by decide +kernel
set_option maxRecDepth 20000 in
theorem mX5_goesBy_0 : (Cond.fieldLink RX5 140 "TradeWheelModel" "people" "I" : Cond) ∈ wsX5_goesBy := by decide +kernel
set_option maxRecDepth 20000 in
theorem mX5_goesBy_1 : (Cond.fieldLink RX5 34 "TradeWheelModel" "s" "[I" : Cond) ∈ wsX5_goesBy := by decide +kernel
set_option maxRecDepth 20000 in
theorem mX5_goesBy_2 : (Cond.fieldLink RX5 137 "TradeWheelModel" "trades" "I" : Cond) ∈ wsX5_goesBy := by decide +kernel
set_option maxHeartbeats 4000000 in
set_option maxRecDepth 100000 in
theorem wX5_goesBy_11 {p : Program} {l : Launch} {e : Env} {s : State} {m : MethodId} {args : Array Value} {below : List Frame} {meth : Method} {c : Code} {Q : State → Prop} {A : Nat → Prop} {dC : Nat → ClassId} {dI : Nat → Nat → Nat} {Z : gZ} {cC cI cZ cW : ClassId} (hg0 : gX p s m args meth c cX5_goesBy 4 (some .int) wsX5_goesBy RX5 (dC, dI) Z [(cC, .char), (cI, .int), (cZ, .boolean), (cW, .object RX3)] A) (a_o a_o_text a_o_need a_o_made a_o_skillTold a_o_placeTold a_o_skips a_o_wheelTold a_o_tunes a_o_s a_o_spare a_o_kept a_o_isKept a_o_makes a_o_works a_o_order : Nat) (o_thrown : Int32) (o_trace : Int64) (o_typed : Int32) (o_next : Int32) (o_token : Int32) (o_place : Int32) (o_value : Int32) (o_fault : Int32) (o_trades : Int32) (o_people : Int32) (o_draftTrades : Int32) (o_draftPeople : Int32) (o_isShut : Int32) (o_falling : Int32) (o_need : Nat → Int32) (o_made : Nat → Int32) (o_skips : Nat → Int32) (o_tunes : Nat → Int32) (o_makes : Nat → Int32) (o_works : Nat → Int32) (l1 : Int32) (N : Nat) : ∀ (n : Nat) (o_s : Nat → Int32) (l2 : Int32) (o_s' : Nat → Int32) (l2' : Int32), fX5_goesBy_11 N o_trades o_people o_skips o_tunes o_works n o_s l2 = some (o_s', l2') → ∀ (H : Heap) (locs : List Loc) (ls : Array Slot), va_P (dC, dI) vwCl [(a_o, .inr (5, [.int o_thrown, .long o_trace, .ref a_o_text, .int o_typed, .int o_next, .int o_token, .int o_place, .int o_value, .int o_fault, .ref a_o_need, .ref a_o_made, .ref a_o_skillTold, .ref a_o_placeTold, .ref a_o_skips, .ref a_o_wheelTold, .int o_trades, .int o_people, .int o_draftTrades, .int o_draftPeople, .int o_isShut, .ref a_o_tunes, .ref a_o_s, .ref a_o_spare, .ref a_o_kept, .ref a_o_isKept, .ref a_o_makes, .ref a_o_works, .ref a_o_order, .int o_falling])), (a_o_need, .inl (cI, 12, .inl o_need)), (a_o_made, .inl (cI, 12, .inl o_made)), (a_o_skips, .inl (cI, 12, .inl o_skips)), (a_o_tunes, .inl (cI, 3, .inl o_tunes)), (a_o_s, .inl (cI, 105, .inl o_s)), (a_o_makes, .inl (cI, 6, .inl o_makes)), (a_o_works, .inl (cI, 6, .inl o_works))] H → va_D A [(a_o, .inr (5, [.int o_thrown, .long o_trace, .ref a_o_text, .int o_typed, .int o_next, .int o_token, .int o_place, .int o_value, .int o_fault, .ref a_o_need, .ref a_o_made, .ref a_o_skillTold, .ref a_o_placeTold, .ref a_o_skips, .ref a_o_wheelTold, .int o_trades, .int o_people, .int o_draftTrades, .int o_draftPeople, .int o_isShut, .ref a_o_tunes, .ref a_o_s, .ref a_o_spare, .ref a_o_kept, .ref a_o_isKept, .ref a_o_makes, .ref a_o_works, .ref a_o_order, .int o_falling])), (a_o_need, .inl (cI, 12, .inl o_need)), (a_o_made, .inl (cI, 12, .inl o_made)), (a_o_skips, .inl (cI, 12, .inl o_skips)), (a_o_tunes, .inl (cI, 3, .inl o_tunes)), (a_o_s, .inl (cI, 105, .inl o_s)), (a_o_makes, .inl (cI, 6, .inl o_makes)), (a_o_works, .inl (cI, 6, .inl o_works))] → va_S A s.heap H locs → lv_has ls 4 [(0, .ref a_o), (1, .int l1), (2, .int l2)] → (∀ (H : Heap) (locs : List Loc) (ls : Array Slot), va_P (dC, dI) vwCl [(a_o, .inr (5, [.int o_thrown, .long o_trace, .ref a_o_text, .int o_typed, .int o_next, .int o_token, .int o_place, .int o_value, .int o_fault, .ref a_o_need, .ref a_o_made, .ref a_o_skillTold, .ref a_o_placeTold, .ref a_o_skips, .ref a_o_wheelTold, .int o_trades, .int o_people, .int o_draftTrades, .int o_draftPeople, .int o_isShut, .ref a_o_tunes, .ref a_o_s, .ref a_o_spare, .ref a_o_kept, .ref a_o_isKept, .ref a_o_makes, .ref a_o_works, .ref a_o_order, .int o_falling])), (a_o_need, .inl (cI, 12, .inl o_need)), (a_o_made, .inl (cI, 12, .inl o_made)), (a_o_skips, .inl (cI, 12, .inl o_skips)), (a_o_tunes, .inl (cI, 3, .inl o_tunes)), (a_o_s, .inl (cI, 105, .inl o_s')), (a_o_makes, .inl (cI, 6, .inl o_makes)), (a_o_works, .inl (cI, 6, .inl o_works))] H → va_D A [(a_o, .inr (5, [.int o_thrown, .long o_trace, .ref a_o_text, .int o_typed, .int o_next, .int o_token, .int o_place, .int o_value, .int o_fault, .ref a_o_need, .ref a_o_made, .ref a_o_skillTold, .ref a_o_placeTold, .ref a_o_skips, .ref a_o_wheelTold, .int o_trades, .int o_people, .int o_draftTrades, .int o_draftPeople, .int o_isShut, .ref a_o_tunes, .ref a_o_s, .ref a_o_spare, .ref a_o_kept, .ref a_o_isKept, .ref a_o_makes, .ref a_o_works, .ref a_o_order, .int o_falling])), (a_o_need, .inl (cI, 12, .inl o_need)), (a_o_made, .inl (cI, 12, .inl o_made)), (a_o_skips, .inl (cI, 12, .inl o_skips)), (a_o_tunes, .inl (cI, 3, .inl o_tunes)), (a_o_s, .inl (cI, 105, .inl o_s')), (a_o_makes, .inl (cI, 6, .inl o_makes)), (a_o_works, .inl (cI, 6, .inl o_works))] → va_S A s.heap H locs → lv_has ls 4 [(0, .ref a_o), (1, .int l1)] → W p l e (headSpec wsX5_goesBy rmX5_goesBy).room s m args below meth c H locs 0 0 Q (F0 m 111 ls [])) → W p l e (headSpec wsX5_goesBy rmX5_goesBy).room s m args below meth c H locs 0 0 Q (F0 m 11 ls []) := by
  obtain ⟨hx, hb, hr, hml, hown, hts, hlocks, hA, hK, hN⟩ := id hg0
  have hF : CallFix p m c cX5_goesBy 4 s args wsX5_goesBy RX5 := ⟨hx, hb, hml, hown, hts⟩
  intro n
  induction n with
  | zero =>
    intro o_s l2 o_s' l2' hf
    have hf := fX5_goesBy_11_0.symm.trans hf
    cases hf
  | succ n ih =>
    intro o_s l2 o_s' l2' hf H locs ls hP hD hS hl kx
    have hf := fX5_goesBy_11_s.symm.trans hf
    refine lv_iload_n hx hb dX5_goesBy_11 rfl (lv_at hl 2 rfl) ?_
    refine lv_aload_n hx hb dX5_goesBy_12 rfl (lv_at hl 0 rfl) ?_
    refine va_get (D := (dC, dI)) (ci := 5) (v := .int o_people) (C := RX5) (T := TX5) (N := 29) hx hb hts uX5_goesBy_X5 hown hK hP 0 rfl rfl 16 (by decide) (hts _ mX5_goesBy_0) (fun _ h9 => h9) rfl dX5_goesBy_13 ?_
    refine lv_icmp_ge (tgt := 111) hx hb dX5_goesBy_16 (by decide) (fun c_1 => ?_) (fun c_1 => ?_)
    · have hf := pit hf c_1
      have q0 := Option.some.inj hf
      obtain ⟨e0, q1⟩ := Prod.mk.inj q0
      subst e0
      subst q1
      exact kx _ _ _ hP hD hS (lv_sub hl [0, 1] rfl)
    · have hf := pif hf c_1
      refine lv_aload_n hx hb dX5_goesBy_19 rfl (lv_at hl 0 rfl) ?_
      refine lv_iload_n hx hb dX5_goesBy_20 rfl (lv_at hl 2 rfl) ?_
      obtain ⟨r_2, hc, hf⟩ := pb1 hf
      refine gCi (va_runV (As := [.int l2]) (rest := []) hF (kX5_placeOf l dC dI Z cC cI cZ cW a_o a_o_text a_o_need a_o_made a_o_skillTold a_o_placeTold a_o_skips a_o_wheelTold a_o_tunes a_o_s a_o_spare a_o_kept a_o_isKept a_o_makes a_o_works a_o_order _ o_thrown o_trace o_typed o_next o_token o_place o_value o_fault o_trades o_people o_draftTrades o_draftPeople o_isShut o_falling o_skips o_s l2 N r_2 hc) (cwV 1 hts gX5_goesBy_X5_placeOf rfl rfl rfl (by decide +kernel) ⟨Nat.le_of_ble_eq_true rfl, Nat.le_of_ble_eq_true rfl⟩) (gPV (wc := [(a_o, .inr (5, [.int o_thrown, .long o_trace, .ref a_o_text, .int o_typed, .int o_next, .int o_token, .int o_place, .int o_value, .int o_fault, .ref a_o_need, .ref a_o_made, .ref a_o_skillTold, .ref a_o_placeTold, .ref a_o_skips, .ref a_o_wheelTold, .int o_trades, .int o_people, .int o_draftTrades, .int o_draftPeople, .int o_isShut, .ref a_o_tunes, .ref a_o_s, .ref a_o_spare, .ref a_o_kept, .ref a_o_isKept, .ref a_o_makes, .ref a_o_works, .ref a_o_order, .int o_falling])), (a_o_skips, .inl (cI, 12, .inl o_skips)), (a_o_s, .inl (cI, 105, .inl o_s))]) hK hN hA hS hP hD [0, 3, 5] rfl rfl (q0 := 0) (ci := 5) rfl rfl rfl) rfl rfl hl.1 rfl (lv_room (Nat.le_of_ble_eq_true rfl)) dX5_goesBy_21 ⟨Nat.zero_le _, Nat.zero_le _⟩) hP hD hS hA [0, 3, 5] rfl rfl rfl (fun H locs hP hD hS => ?_)
      have hP : va_P (dC, dI) vwCl [(a_o, .inr (5, [.int o_thrown, .long o_trace, .ref a_o_text, .int o_typed, .int o_next, .int o_token, .int o_place, .int o_value, .int o_fault, .ref a_o_need, .ref a_o_made, .ref a_o_skillTold, .ref a_o_placeTold, .ref a_o_skips, .ref a_o_wheelTold, .int o_trades, .int o_people, .int o_draftTrades, .int o_draftPeople, .int o_isShut, .ref a_o_tunes, .ref a_o_s, .ref a_o_spare, .ref a_o_kept, .ref a_o_isKept, .ref a_o_makes, .ref a_o_works, .ref a_o_order, .int o_falling])), (a_o_need, .inl (cI, 12, .inl o_need)), (a_o_made, .inl (cI, 12, .inl o_made)), (a_o_skips, .inl (cI, 12, .inl o_skips)), (a_o_tunes, .inl (cI, 3, .inl o_tunes)), (a_o_s, .inl (cI, 105, .inl o_s)), (a_o_makes, .inl (cI, 6, .inl o_makes)), (a_o_works, .inl (cI, 6, .inl o_works))] H := hP
      have hD : va_D A [(a_o, .inr (5, [.int o_thrown, .long o_trace, .ref a_o_text, .int o_typed, .int o_next, .int o_token, .int o_place, .int o_value, .int o_fault, .ref a_o_need, .ref a_o_made, .ref a_o_skillTold, .ref a_o_placeTold, .ref a_o_skips, .ref a_o_wheelTold, .int o_trades, .int o_people, .int o_draftTrades, .int o_draftPeople, .int o_isShut, .ref a_o_tunes, .ref a_o_s, .ref a_o_spare, .ref a_o_kept, .ref a_o_isKept, .ref a_o_makes, .ref a_o_works, .ref a_o_order, .int o_falling])), (a_o_need, .inl (cI, 12, .inl o_need)), (a_o_made, .inl (cI, 12, .inl o_made)), (a_o_skips, .inl (cI, 12, .inl o_skips)), (a_o_tunes, .inl (cI, 3, .inl o_tunes)), (a_o_s, .inl (cI, 105, .inl o_s)), (a_o_makes, .inl (cI, 6, .inl o_makes)), (a_o_works, .inl (cI, 6, .inl o_works))] := hD
      refine lv_istore_n (lv' := [(3, .int r_2), (0, .ref a_o), (1, .int l1), (2, .int l2)]) hx hb dX5_goesBy_24 rfl hl (by decide) rfl (fun ls hl => ?_)
      refine lv_aload_n hx hb dX5_goesBy_25 rfl (lv_at hl 1 rfl) ?_
      refine lv_iload_n hx hb dX5_goesBy_26 rfl (lv_at hl 3 rfl) ?_
      obtain ⟨o_s_3, hc, hf⟩ := pb1 hf
      refine gCv (va_runV (As := [.int l2]) (rest := []) hF (kX5_skillsChange l dC dI Z cC cI cZ cW a_o a_o_text a_o_need a_o_made a_o_skillTold a_o_placeTold a_o_skips a_o_wheelTold a_o_tunes a_o_s a_o_spare a_o_kept a_o_isKept a_o_makes a_o_works a_o_order _ o_thrown o_trace o_typed o_next o_token o_place o_value o_fault o_trades o_people o_draftTrades o_draftPeople o_isShut o_falling o_tunes o_s o_works l2 N o_s_3 hc) (cwV 1 hts gX5_goesBy_X5_skillsChange rfl rfl rfl (by decide +kernel) ⟨Nat.le_of_ble_eq_true rfl, Nat.le_of_ble_eq_true rfl⟩) (gPV (wc := [(a_o, .inr (5, [.int o_thrown, .long o_trace, .ref a_o_text, .int o_typed, .int o_next, .int o_token, .int o_place, .int o_value, .int o_fault, .ref a_o_need, .ref a_o_made, .ref a_o_skillTold, .ref a_o_placeTold, .ref a_o_skips, .ref a_o_wheelTold, .int o_trades, .int o_people, .int o_draftTrades, .int o_draftPeople, .int o_isShut, .ref a_o_tunes, .ref a_o_s, .ref a_o_spare, .ref a_o_kept, .ref a_o_isKept, .ref a_o_makes, .ref a_o_works, .ref a_o_order, .int o_falling])), (a_o_tunes, .inl (cI, 3, .inl o_tunes)), (a_o_s, .inl (cI, 105, .inl o_s)), (a_o_works, .inl (cI, 6, .inl o_works))]) hK hN hA hS hP hD [0, 4, 5, 7] rfl rfl (q0 := 0) (ci := 5) rfl rfl rfl) rfl rfl hl.1 rfl (lv_room (Nat.le_of_ble_eq_true rfl)) dX5_goesBy_27 ⟨Nat.zero_le _, Nat.zero_le _⟩) hP hD hS hA [0, 4, 5, 7] rfl rfl rfl (fun H locs hP hD hS => ?_)
      have hP : va_P (dC, dI) vwCl [(a_o, .inr (5, [.int o_thrown, .long o_trace, .ref a_o_text, .int o_typed, .int o_next, .int o_token, .int o_place, .int o_value, .int o_fault, .ref a_o_need, .ref a_o_made, .ref a_o_skillTold, .ref a_o_placeTold, .ref a_o_skips, .ref a_o_wheelTold, .int o_trades, .int o_people, .int o_draftTrades, .int o_draftPeople, .int o_isShut, .ref a_o_tunes, .ref a_o_s, .ref a_o_spare, .ref a_o_kept, .ref a_o_isKept, .ref a_o_makes, .ref a_o_works, .ref a_o_order, .int o_falling])), (a_o_need, .inl (cI, 12, .inl o_need)), (a_o_made, .inl (cI, 12, .inl o_made)), (a_o_skips, .inl (cI, 12, .inl o_skips)), (a_o_tunes, .inl (cI, 3, .inl o_tunes)), (a_o_s, .inl (cI, 105, .inl o_s_3)), (a_o_makes, .inl (cI, 6, .inl o_makes)), (a_o_works, .inl (cI, 6, .inl o_works))] H := hP
      have hD : va_D A [(a_o, .inr (5, [.int o_thrown, .long o_trace, .ref a_o_text, .int o_typed, .int o_next, .int o_token, .int o_place, .int o_value, .int o_fault, .ref a_o_need, .ref a_o_made, .ref a_o_skillTold, .ref a_o_placeTold, .ref a_o_skips, .ref a_o_wheelTold, .int o_trades, .int o_people, .int o_draftTrades, .int o_draftPeople, .int o_isShut, .ref a_o_tunes, .ref a_o_s, .ref a_o_spare, .ref a_o_kept, .ref a_o_isKept, .ref a_o_makes, .ref a_o_works, .ref a_o_order, .int o_falling])), (a_o_need, .inl (cI, 12, .inl o_need)), (a_o_made, .inl (cI, 12, .inl o_made)), (a_o_skips, .inl (cI, 12, .inl o_skips)), (a_o_tunes, .inl (cI, 3, .inl o_tunes)), (a_o_s, .inl (cI, 105, .inl o_s_3)), (a_o_makes, .inl (cI, 6, .inl o_makes)), (a_o_works, .inl (cI, 6, .inl o_works))] := hD
      refine lv_aload_n hx hb dX5_goesBy_30 rfl (lv_at hl 1 rfl) ?_
      refine va_get (D := (dC, dI)) (ci := 5) (v := .ref a_o_s) (C := RX5) (T := TX5) (N := 29) hx hb hts uX5_goesBy_X5 hown hK hP 0 rfl rfl 21 (by decide) (hts _ mX5_goesBy_1) (fun _ h9 => h9) rfl dX5_goesBy_31 ?_
      refine lv_bipush (v := (20 : Int32)) hx hb dX5_goesBy_34 (by decide) ?_
      refine lv_iload_n hx hb dX5_goesBy_36 rfl (lv_at hl 3 rfl) ?_
      refine lv_iadd hx hb dX5_goesBy_37 ?_
      refine lv_iload_n hx hb dX5_goesBy_38 rfl (lv_at hl 0 rfl) ?_
      refine lv_bipush (v := (-9 : Int32)) hx hb dX5_goesBy_39 (by decide) ?_
      refine lv_icmp_ne (tgt := 56) hx hb dX5_goesBy_41 (by decide) (fun c_4 => ?_) (fun c_4 => ?_)
      · have hf := pif hf c_4
        refine lv_iload_n hx hb dX5_goesBy_56 rfl (lv_at hl 0 rfl) ?_
        refine lv_iconst (v := (1 : Int32)) hx hb dX5_goesBy_57 (by decide) ?_
        refine lv_iadd hx hb dX5_goesBy_58 ?_
        refine lv_aload_n hx hb dX5_goesBy_59 rfl (lv_at hl 1 rfl) ?_
        refine va_get (D := (dC, dI)) (ci := 5) (v := .int o_trades) (C := RX5) (T := TX5) (N := 29) hx hb hts uX5_goesBy_X5 hown hK hP 0 rfl rfl 15 (by decide) (hts _ mX5_goesBy_2) (fun _ h9 => h9) rfl dX5_goesBy_60 ?_
        obtain ⟨hz_5, hf⟩ := pgz hf
        refine lv_irem hx hb dX5_goesBy_63 hz_5 ?_
        obtain ⟨h_6, hf⟩ := pgd hf
        refine va_iast hx hb hK hP hD hS 5 1 rfl rfl h_6 dX5_goesBy_64 (fun H locs hP hD hS => ?_)
        have hP : va_P (dC, dI) vwCl [(a_o, .inr (5, [.int o_thrown, .long o_trace, .ref a_o_text, .int o_typed, .int o_next, .int o_token, .int o_place, .int o_value, .int o_fault, .ref a_o_need, .ref a_o_made, .ref a_o_skillTold, .ref a_o_placeTold, .ref a_o_skips, .ref a_o_wheelTold, .int o_trades, .int o_people, .int o_draftTrades, .int o_draftPeople, .int o_isShut, .ref a_o_tunes, .ref a_o_s, .ref a_o_spare, .ref a_o_kept, .ref a_o_isKept, .ref a_o_makes, .ref a_o_works, .ref a_o_order, .int o_falling])), (a_o_need, .inl (cI, 12, .inl o_need)), (a_o_made, .inl (cI, 12, .inl o_made)), (a_o_skips, .inl (cI, 12, .inl o_skips)), (a_o_tunes, .inl (cI, 3, .inl o_tunes)), (a_o_s, .inl (cI, 105, .inl (upd o_s_3 ((20 : Int32) + l2).toNatClampNeg ((r_2 + (1 : Int32)) - (r_2 + (1 : Int32)) / o_trades * o_trades)))), (a_o_makes, .inl (cI, 6, .inl o_makes)), (a_o_works, .inl (cI, 6, .inl o_works))] H := hP
        have hD : va_D A [(a_o, .inr (5, [.int o_thrown, .long o_trace, .ref a_o_text, .int o_typed, .int o_next, .int o_token, .int o_place, .int o_value, .int o_fault, .ref a_o_need, .ref a_o_made, .ref a_o_skillTold, .ref a_o_placeTold, .ref a_o_skips, .ref a_o_wheelTold, .int o_trades, .int o_people, .int o_draftTrades, .int o_draftPeople, .int o_isShut, .ref a_o_tunes, .ref a_o_s, .ref a_o_spare, .ref a_o_kept, .ref a_o_isKept, .ref a_o_makes, .ref a_o_works, .ref a_o_order, .int o_falling])), (a_o_need, .inl (cI, 12, .inl o_need)), (a_o_made, .inl (cI, 12, .inl o_made)), (a_o_skips, .inl (cI, 12, .inl o_skips)), (a_o_tunes, .inl (cI, 3, .inl o_tunes)), (a_o_s, .inl (cI, 105, .inl (upd o_s_3 ((20 : Int32) + l2).toNatClampNeg ((r_2 + (1 : Int32)) - (r_2 + (1 : Int32)) / o_trades * o_trades)))), (a_o_makes, .inl (cI, 6, .inl o_makes)), (a_o_works, .inl (cI, 6, .inl o_works))] := hD
        refine lv_aload_n hx hb dX5_goesBy_65 rfl (lv_at hl 1 rfl) ?_
        refine va_get (D := (dC, dI)) (ci := 5) (v := .ref a_o_s) (C := RX5) (T := TX5) (N := 29) hx hb hts uX5_goesBy_X5 hown hK hP 0 rfl rfl 21 (by decide) (hts _ mX5_goesBy_1) (fun _ h9 => h9) rfl dX5_goesBy_66 ?_
        refine lv_bipush (v := (26 : Int32)) hx hb dX5_goesBy_69 (by decide) ?_
        refine lv_iload_n hx hb dX5_goesBy_71 rfl (lv_at hl 3 rfl) ?_
        refine lv_iadd hx hb dX5_goesBy_72 ?_
        obtain ⟨h_7, hf⟩ := pgd hf
        refine va_iald hx hb hK hP 5 1 rfl rfl h_7 dX5_goesBy_73 ?_
        refine lv_bipush (v := (-9 : Int32)) hx hb dX5_goesBy_74 (by decide) ?_
        refine lv_icmp_eq (tgt := 105) hx hb dX5_goesBy_76 (by decide) (fun c_8 => ?_) (fun c_8 => ?_)
        · have hf := pit hf c_8
          refine lv_iinc (v := (l2 + 1)) (lv' := [(2, .int (l2 + 1)), (3, .int r_2), (0, .ref a_o), (1, .int l1)]) hx hb dX5_goesBy_105 hl (k := 3) rfl rfl (by decide) rfl (fun ls hl => ?_)
          refine lv_goto (tgt := 11) hx hb dX5_goesBy_108 (by decide) ?_
          exact ih _ _ _ _ hf _ _ _ hP hD hS (lv_sub hl [2, 3, 0] rfl) kx
        · have hf := pif hf c_8
          refine lv_aload_n hx hb dX5_goesBy_79 rfl (lv_at hl 1 rfl) ?_
          refine va_get (D := (dC, dI)) (ci := 5) (v := .ref a_o_s) (C := RX5) (T := TX5) (N := 29) hx hb hts uX5_goesBy_X5 hown hK hP 0 rfl rfl 21 (by decide) (hts _ mX5_goesBy_1) (fun _ h9 => h9) rfl dX5_goesBy_80 ?_
          refine lv_bipush (v := (69 : Int32)) hx hb dX5_goesBy_83 (by decide) ?_
          refine lv_bipush (v := (6 : Int32)) hx hb dX5_goesBy_85 (by decide) ?_
          refine lv_aload_n hx hb dX5_goesBy_87 rfl (lv_at hl 1 rfl) ?_
          refine va_get (D := (dC, dI)) (ci := 5) (v := .ref a_o_s) (C := RX5) (T := TX5) (N := 29) hx hb hts uX5_goesBy_X5 hown hK hP 0 rfl rfl 21 (by decide) (hts _ mX5_goesBy_1) (fun _ h9 => h9) rfl dX5_goesBy_88 ?_
          refine lv_bipush (v := (26 : Int32)) hx hb dX5_goesBy_91 (by decide) ?_
          refine lv_iload_n hx hb dX5_goesBy_93 rfl (lv_at hl 3 rfl) ?_
          refine lv_iadd hx hb dX5_goesBy_94 ?_
          obtain ⟨h_9, hf⟩ := pgd hf
          refine va_iald hx hb hK hP 5 1 rfl rfl h_9 dX5_goesBy_95 ?_
          refine lv_imul hx hb dX5_goesBy_96 ?_
          refine lv_iadd hx hb dX5_goesBy_97 ?_
          refine lv_iload_n hx hb dX5_goesBy_98 rfl (lv_at hl 3 rfl) ?_
          refine lv_iadd hx hb dX5_goesBy_99 ?_
          refine lv_dup2_11 hx hb dX5_goesBy_100 rfl rfl ?_
          obtain ⟨h_10, hf⟩ := pgd hf
          refine va_iald hx hb hK hP 5 1 rfl rfl h_10 dX5_goesBy_101 ?_
          refine lv_iconst (v := (1 : Int32)) hx hb dX5_goesBy_102 (by decide) ?_
          refine lv_iadd hx hb dX5_goesBy_103 ?_
          obtain ⟨h_11, hf⟩ := pgd hf
          refine va_iast hx hb hK hP hD hS 5 1 rfl rfl h_11 dX5_goesBy_104 (fun H locs hP hD hS => ?_)
          have hP : va_P (dC, dI) vwCl [(a_o, .inr (5, [.int o_thrown, .long o_trace, .ref a_o_text, .int o_typed, .int o_next, .int o_token, .int o_place, .int o_value, .int o_fault, .ref a_o_need, .ref a_o_made, .ref a_o_skillTold, .ref a_o_placeTold, .ref a_o_skips, .ref a_o_wheelTold, .int o_trades, .int o_people, .int o_draftTrades, .int o_draftPeople, .int o_isShut, .ref a_o_tunes, .ref a_o_s, .ref a_o_spare, .ref a_o_kept, .ref a_o_isKept, .ref a_o_makes, .ref a_o_works, .ref a_o_order, .int o_falling])), (a_o_need, .inl (cI, 12, .inl o_need)), (a_o_made, .inl (cI, 12, .inl o_made)), (a_o_skips, .inl (cI, 12, .inl o_skips)), (a_o_tunes, .inl (cI, 3, .inl o_tunes)), (a_o_s, .inl (cI, 105, .inl (upd (upd o_s_3 ((20 : Int32) + l2).toNatClampNeg ((r_2 + (1 : Int32)) - (r_2 + (1 : Int32)) / o_trades * o_trades)) (((69 : Int32) + ((6 : Int32) * ((upd o_s_3 ((20 : Int32) + l2).toNatClampNeg ((r_2 + (1 : Int32)) - (r_2 + (1 : Int32)) / o_trades * o_trades)) ((26 : Int32) + l2).toNatClampNeg))) + l2).toNatClampNeg (((upd o_s_3 ((20 : Int32) + l2).toNatClampNeg ((r_2 + (1 : Int32)) - (r_2 + (1 : Int32)) / o_trades * o_trades)) (((69 : Int32) + ((6 : Int32) * ((upd o_s_3 ((20 : Int32) + l2).toNatClampNeg ((r_2 + (1 : Int32)) - (r_2 + (1 : Int32)) / o_trades * o_trades)) ((26 : Int32) + l2).toNatClampNeg))) + l2).toNatClampNeg) + (1 : Int32))))), (a_o_makes, .inl (cI, 6, .inl o_makes)), (a_o_works, .inl (cI, 6, .inl o_works))] H := hP
          have hD : va_D A [(a_o, .inr (5, [.int o_thrown, .long o_trace, .ref a_o_text, .int o_typed, .int o_next, .int o_token, .int o_place, .int o_value, .int o_fault, .ref a_o_need, .ref a_o_made, .ref a_o_skillTold, .ref a_o_placeTold, .ref a_o_skips, .ref a_o_wheelTold, .int o_trades, .int o_people, .int o_draftTrades, .int o_draftPeople, .int o_isShut, .ref a_o_tunes, .ref a_o_s, .ref a_o_spare, .ref a_o_kept, .ref a_o_isKept, .ref a_o_makes, .ref a_o_works, .ref a_o_order, .int o_falling])), (a_o_need, .inl (cI, 12, .inl o_need)), (a_o_made, .inl (cI, 12, .inl o_made)), (a_o_skips, .inl (cI, 12, .inl o_skips)), (a_o_tunes, .inl (cI, 3, .inl o_tunes)), (a_o_s, .inl (cI, 105, .inl (upd (upd o_s_3 ((20 : Int32) + l2).toNatClampNeg ((r_2 + (1 : Int32)) - (r_2 + (1 : Int32)) / o_trades * o_trades)) (((69 : Int32) + ((6 : Int32) * ((upd o_s_3 ((20 : Int32) + l2).toNatClampNeg ((r_2 + (1 : Int32)) - (r_2 + (1 : Int32)) / o_trades * o_trades)) ((26 : Int32) + l2).toNatClampNeg))) + l2).toNatClampNeg (((upd o_s_3 ((20 : Int32) + l2).toNatClampNeg ((r_2 + (1 : Int32)) - (r_2 + (1 : Int32)) / o_trades * o_trades)) (((69 : Int32) + ((6 : Int32) * ((upd o_s_3 ((20 : Int32) + l2).toNatClampNeg ((r_2 + (1 : Int32)) - (r_2 + (1 : Int32)) / o_trades * o_trades)) ((26 : Int32) + l2).toNatClampNeg))) + l2).toNatClampNeg) + (1 : Int32))))), (a_o_makes, .inl (cI, 6, .inl o_makes)), (a_o_works, .inl (cI, 6, .inl o_works))] := hD
          refine lv_iinc (v := (l2 + 1)) (lv' := [(2, .int (l2 + 1)), (3, .int r_2), (0, .ref a_o), (1, .int l1)]) hx hb dX5_goesBy_105 hl (k := 3) rfl rfl (by decide) rfl (fun ls hl => ?_)
          refine lv_goto (tgt := 11) hx hb dX5_goesBy_108 (by decide) ?_
          exact ih _ _ _ _ hf _ _ _ hP hD hS (lv_sub hl [2, 3, 0] rfl) kx
      · have hf := pit hf c_4
        refine lv_aload_n hx hb dX5_goesBy_44 rfl (lv_at hl 1 rfl) ?_
        refine va_get (D := (dC, dI)) (ci := 5) (v := .ref a_o_s) (C := RX5) (T := TX5) (N := 29) hx hb hts uX5_goesBy_X5 hown hK hP 0 rfl rfl 21 (by decide) (hts _ mX5_goesBy_1) (fun _ h9 => h9) rfl dX5_goesBy_45 ?_
        refine lv_bipush (v := (20 : Int32)) hx hb dX5_goesBy_48 (by decide) ?_
        refine lv_iload_n hx hb dX5_goesBy_50 rfl (lv_at hl 3 rfl) ?_
        refine lv_iadd hx hb dX5_goesBy_51 ?_
        obtain ⟨h_12, hf⟩ := pgd hf
        refine va_iald hx hb hK hP 5 1 rfl rfl h_12 dX5_goesBy_52 ?_
        refine lv_goto (tgt := 57) hx hb dX5_goesBy_53 (by decide) ?_
        refine lv_iconst (v := (1 : Int32)) hx hb dX5_goesBy_57 (by decide) ?_
        refine lv_iadd hx hb dX5_goesBy_58 ?_
        refine lv_aload_n hx hb dX5_goesBy_59 rfl (lv_at hl 1 rfl) ?_
        refine va_get (D := (dC, dI)) (ci := 5) (v := .int o_trades) (C := RX5) (T := TX5) (N := 29) hx hb hts uX5_goesBy_X5 hown hK hP 0 rfl rfl 15 (by decide) (hts _ mX5_goesBy_2) (fun _ h9 => h9) rfl dX5_goesBy_60 ?_
        obtain ⟨hz_13, hf⟩ := pgz hf
        refine lv_irem hx hb dX5_goesBy_63 hz_13 ?_
        obtain ⟨h_14, hf⟩ := pgd hf
        refine va_iast hx hb hK hP hD hS 5 1 rfl rfl h_14 dX5_goesBy_64 (fun H locs hP hD hS => ?_)
        have hP : va_P (dC, dI) vwCl [(a_o, .inr (5, [.int o_thrown, .long o_trace, .ref a_o_text, .int o_typed, .int o_next, .int o_token, .int o_place, .int o_value, .int o_fault, .ref a_o_need, .ref a_o_made, .ref a_o_skillTold, .ref a_o_placeTold, .ref a_o_skips, .ref a_o_wheelTold, .int o_trades, .int o_people, .int o_draftTrades, .int o_draftPeople, .int o_isShut, .ref a_o_tunes, .ref a_o_s, .ref a_o_spare, .ref a_o_kept, .ref a_o_isKept, .ref a_o_makes, .ref a_o_works, .ref a_o_order, .int o_falling])), (a_o_need, .inl (cI, 12, .inl o_need)), (a_o_made, .inl (cI, 12, .inl o_made)), (a_o_skips, .inl (cI, 12, .inl o_skips)), (a_o_tunes, .inl (cI, 3, .inl o_tunes)), (a_o_s, .inl (cI, 105, .inl (upd o_s_3 ((20 : Int32) + l2).toNatClampNeg (((o_s_3 ((20 : Int32) + l2).toNatClampNeg) + (1 : Int32)) - ((o_s_3 ((20 : Int32) + l2).toNatClampNeg) + (1 : Int32)) / o_trades * o_trades)))), (a_o_makes, .inl (cI, 6, .inl o_makes)), (a_o_works, .inl (cI, 6, .inl o_works))] H := hP
        have hD : va_D A [(a_o, .inr (5, [.int o_thrown, .long o_trace, .ref a_o_text, .int o_typed, .int o_next, .int o_token, .int o_place, .int o_value, .int o_fault, .ref a_o_need, .ref a_o_made, .ref a_o_skillTold, .ref a_o_placeTold, .ref a_o_skips, .ref a_o_wheelTold, .int o_trades, .int o_people, .int o_draftTrades, .int o_draftPeople, .int o_isShut, .ref a_o_tunes, .ref a_o_s, .ref a_o_spare, .ref a_o_kept, .ref a_o_isKept, .ref a_o_makes, .ref a_o_works, .ref a_o_order, .int o_falling])), (a_o_need, .inl (cI, 12, .inl o_need)), (a_o_made, .inl (cI, 12, .inl o_made)), (a_o_skips, .inl (cI, 12, .inl o_skips)), (a_o_tunes, .inl (cI, 3, .inl o_tunes)), (a_o_s, .inl (cI, 105, .inl (upd o_s_3 ((20 : Int32) + l2).toNatClampNeg (((o_s_3 ((20 : Int32) + l2).toNatClampNeg) + (1 : Int32)) - ((o_s_3 ((20 : Int32) + l2).toNatClampNeg) + (1 : Int32)) / o_trades * o_trades)))), (a_o_makes, .inl (cI, 6, .inl o_makes)), (a_o_works, .inl (cI, 6, .inl o_works))] := hD
        refine lv_aload_n hx hb dX5_goesBy_65 rfl (lv_at hl 1 rfl) ?_
        refine va_get (D := (dC, dI)) (ci := 5) (v := .ref a_o_s) (C := RX5) (T := TX5) (N := 29) hx hb hts uX5_goesBy_X5 hown hK hP 0 rfl rfl 21 (by decide) (hts _ mX5_goesBy_1) (fun _ h9 => h9) rfl dX5_goesBy_66 ?_
        refine lv_bipush (v := (26 : Int32)) hx hb dX5_goesBy_69 (by decide) ?_
        refine lv_iload_n hx hb dX5_goesBy_71 rfl (lv_at hl 3 rfl) ?_
        refine lv_iadd hx hb dX5_goesBy_72 ?_
        obtain ⟨h_15, hf⟩ := pgd hf
        refine va_iald hx hb hK hP 5 1 rfl rfl h_15 dX5_goesBy_73 ?_
        refine lv_bipush (v := (-9 : Int32)) hx hb dX5_goesBy_74 (by decide) ?_
        refine lv_icmp_eq (tgt := 105) hx hb dX5_goesBy_76 (by decide) (fun c_16 => ?_) (fun c_16 => ?_)
        · have hf := pit hf c_16
          refine lv_iinc (v := (l2 + 1)) (lv' := [(2, .int (l2 + 1)), (3, .int r_2), (0, .ref a_o), (1, .int l1)]) hx hb dX5_goesBy_105 hl (k := 3) rfl rfl (by decide) rfl (fun ls hl => ?_)
          refine lv_goto (tgt := 11) hx hb dX5_goesBy_108 (by decide) ?_
          exact ih _ _ _ _ hf _ _ _ hP hD hS (lv_sub hl [2, 3, 0] rfl) kx
        · have hf := pif hf c_16
          refine lv_aload_n hx hb dX5_goesBy_79 rfl (lv_at hl 1 rfl) ?_
          refine va_get (D := (dC, dI)) (ci := 5) (v := .ref a_o_s) (C := RX5) (T := TX5) (N := 29) hx hb hts uX5_goesBy_X5 hown hK hP 0 rfl rfl 21 (by decide) (hts _ mX5_goesBy_1) (fun _ h9 => h9) rfl dX5_goesBy_80 ?_
          refine lv_bipush (v := (69 : Int32)) hx hb dX5_goesBy_83 (by decide) ?_
          refine lv_bipush (v := (6 : Int32)) hx hb dX5_goesBy_85 (by decide) ?_
          refine lv_aload_n hx hb dX5_goesBy_87 rfl (lv_at hl 1 rfl) ?_
          refine va_get (D := (dC, dI)) (ci := 5) (v := .ref a_o_s) (C := RX5) (T := TX5) (N := 29) hx hb hts uX5_goesBy_X5 hown hK hP 0 rfl rfl 21 (by decide) (hts _ mX5_goesBy_1) (fun _ h9 => h9) rfl dX5_goesBy_88 ?_
          refine lv_bipush (v := (26 : Int32)) hx hb dX5_goesBy_91 (by decide) ?_
          refine lv_iload_n hx hb dX5_goesBy_93 rfl (lv_at hl 3 rfl) ?_
          refine lv_iadd hx hb dX5_goesBy_94 ?_
          obtain ⟨h_17, hf⟩ := pgd hf
          refine va_iald hx hb hK hP 5 1 rfl rfl h_17 dX5_goesBy_95 ?_
          refine lv_imul hx hb dX5_goesBy_96 ?_
          refine lv_iadd hx hb dX5_goesBy_97 ?_
          refine lv_iload_n hx hb dX5_goesBy_98 rfl (lv_at hl 3 rfl) ?_
          refine lv_iadd hx hb dX5_goesBy_99 ?_
          refine lv_dup2_11 hx hb dX5_goesBy_100 rfl rfl ?_
          obtain ⟨h_18, hf⟩ := pgd hf
          refine va_iald hx hb hK hP 5 1 rfl rfl h_18 dX5_goesBy_101 ?_
          refine lv_iconst (v := (1 : Int32)) hx hb dX5_goesBy_102 (by decide) ?_
          refine lv_iadd hx hb dX5_goesBy_103 ?_
          obtain ⟨h_19, hf⟩ := pgd hf
          refine va_iast hx hb hK hP hD hS 5 1 rfl rfl h_19 dX5_goesBy_104 (fun H locs hP hD hS => ?_)
          have hP : va_P (dC, dI) vwCl [(a_o, .inr (5, [.int o_thrown, .long o_trace, .ref a_o_text, .int o_typed, .int o_next, .int o_token, .int o_place, .int o_value, .int o_fault, .ref a_o_need, .ref a_o_made, .ref a_o_skillTold, .ref a_o_placeTold, .ref a_o_skips, .ref a_o_wheelTold, .int o_trades, .int o_people, .int o_draftTrades, .int o_draftPeople, .int o_isShut, .ref a_o_tunes, .ref a_o_s, .ref a_o_spare, .ref a_o_kept, .ref a_o_isKept, .ref a_o_makes, .ref a_o_works, .ref a_o_order, .int o_falling])), (a_o_need, .inl (cI, 12, .inl o_need)), (a_o_made, .inl (cI, 12, .inl o_made)), (a_o_skips, .inl (cI, 12, .inl o_skips)), (a_o_tunes, .inl (cI, 3, .inl o_tunes)), (a_o_s, .inl (cI, 105, .inl (upd (upd o_s_3 ((20 : Int32) + l2).toNatClampNeg (((o_s_3 ((20 : Int32) + l2).toNatClampNeg) + (1 : Int32)) - ((o_s_3 ((20 : Int32) + l2).toNatClampNeg) + (1 : Int32)) / o_trades * o_trades)) (((69 : Int32) + ((6 : Int32) * ((upd o_s_3 ((20 : Int32) + l2).toNatClampNeg (((o_s_3 ((20 : Int32) + l2).toNatClampNeg) + (1 : Int32)) - ((o_s_3 ((20 : Int32) + l2).toNatClampNeg) + (1 : Int32)) / o_trades * o_trades)) ((26 : Int32) + l2).toNatClampNeg))) + l2).toNatClampNeg (((upd o_s_3 ((20 : Int32) + l2).toNatClampNeg (((o_s_3 ((20 : Int32) + l2).toNatClampNeg) + (1 : Int32)) - ((o_s_3 ((20 : Int32) + l2).toNatClampNeg) + (1 : Int32)) / o_trades * o_trades)) (((69 : Int32) + ((6 : Int32) * ((upd o_s_3 ((20 : Int32) + l2).toNatClampNeg (((o_s_3 ((20 : Int32) + l2).toNatClampNeg) + (1 : Int32)) - ((o_s_3 ((20 : Int32) + l2).toNatClampNeg) + (1 : Int32)) / o_trades * o_trades)) ((26 : Int32) + l2).toNatClampNeg))) + l2).toNatClampNeg) + (1 : Int32))))), (a_o_makes, .inl (cI, 6, .inl o_makes)), (a_o_works, .inl (cI, 6, .inl o_works))] H := hP
          have hD : va_D A [(a_o, .inr (5, [.int o_thrown, .long o_trace, .ref a_o_text, .int o_typed, .int o_next, .int o_token, .int o_place, .int o_value, .int o_fault, .ref a_o_need, .ref a_o_made, .ref a_o_skillTold, .ref a_o_placeTold, .ref a_o_skips, .ref a_o_wheelTold, .int o_trades, .int o_people, .int o_draftTrades, .int o_draftPeople, .int o_isShut, .ref a_o_tunes, .ref a_o_s, .ref a_o_spare, .ref a_o_kept, .ref a_o_isKept, .ref a_o_makes, .ref a_o_works, .ref a_o_order, .int o_falling])), (a_o_need, .inl (cI, 12, .inl o_need)), (a_o_made, .inl (cI, 12, .inl o_made)), (a_o_skips, .inl (cI, 12, .inl o_skips)), (a_o_tunes, .inl (cI, 3, .inl o_tunes)), (a_o_s, .inl (cI, 105, .inl (upd (upd o_s_3 ((20 : Int32) + l2).toNatClampNeg (((o_s_3 ((20 : Int32) + l2).toNatClampNeg) + (1 : Int32)) - ((o_s_3 ((20 : Int32) + l2).toNatClampNeg) + (1 : Int32)) / o_trades * o_trades)) (((69 : Int32) + ((6 : Int32) * ((upd o_s_3 ((20 : Int32) + l2).toNatClampNeg (((o_s_3 ((20 : Int32) + l2).toNatClampNeg) + (1 : Int32)) - ((o_s_3 ((20 : Int32) + l2).toNatClampNeg) + (1 : Int32)) / o_trades * o_trades)) ((26 : Int32) + l2).toNatClampNeg))) + l2).toNatClampNeg (((upd o_s_3 ((20 : Int32) + l2).toNatClampNeg (((o_s_3 ((20 : Int32) + l2).toNatClampNeg) + (1 : Int32)) - ((o_s_3 ((20 : Int32) + l2).toNatClampNeg) + (1 : Int32)) / o_trades * o_trades)) (((69 : Int32) + ((6 : Int32) * ((upd o_s_3 ((20 : Int32) + l2).toNatClampNeg (((o_s_3 ((20 : Int32) + l2).toNatClampNeg) + (1 : Int32)) - ((o_s_3 ((20 : Int32) + l2).toNatClampNeg) + (1 : Int32)) / o_trades * o_trades)) ((26 : Int32) + l2).toNatClampNeg))) + l2).toNatClampNeg) + (1 : Int32))))), (a_o_makes, .inl (cI, 6, .inl o_makes)), (a_o_works, .inl (cI, 6, .inl o_works))] := hD
          refine lv_iinc (v := (l2 + 1)) (lv' := [(2, .int (l2 + 1)), (3, .int r_2), (0, .ref a_o), (1, .int l1)]) hx hb dX5_goesBy_105 hl (k := 3) rfl rfl (by decide) rfl (fun ls hl => ?_)
          refine lv_goto (tgt := 11) hx hb dX5_goesBy_108 (by decide) ?_
          exact ih _ _ _ _ hf _ _ _ hP hD hS (lv_sub hl [2, 3, 0] rfl) kx
set_option maxHeartbeats 4000000 in
set_option maxRecDepth 100000 in
theorem wX5_goesBy_113 {p : Program} {l : Launch} {e : Env} {s : State} {m : MethodId} {args : Array Value} {below : List Frame} {meth : Method} {c : Code} {Q : State → Prop} {A : Nat → Prop} {dC : Nat → ClassId} {dI : Nat → Nat → Nat} {Z : gZ} {cC cI cZ cW : ClassId} (hg0 : gX p s m args meth c cX5_goesBy 4 (some .int) wsX5_goesBy RX5 (dC, dI) Z [(cC, .char), (cI, .int), (cZ, .boolean), (cW, .object RX3)] A) (a_o a_o_text a_o_need a_o_made a_o_skillTold a_o_placeTold a_o_skips a_o_wheelTold a_o_tunes a_o_s a_o_spare a_o_kept a_o_isKept a_o_makes a_o_works a_o_order : Nat) (o_thrown : Int32) (o_trace : Int64) (o_typed : Int32) (o_next : Int32) (o_token : Int32) (o_place : Int32) (o_value : Int32) (o_fault : Int32) (o_trades : Int32) (o_people : Int32) (o_draftTrades : Int32) (o_draftPeople : Int32) (o_isShut : Int32) (o_falling : Int32) (o_need : Nat → Int32) (o_made : Nat → Int32) (o_skips : Nat → Int32) (o_tunes : Nat → Int32) (o_makes : Nat → Int32) (o_works : Nat → Int32) (l1 : Int32) (N : Nat) : ∀ (n : Nat) (o_s : Nat → Int32) (l2 : Int32) (o_s' : Nat → Int32) (l2' : Int32), fX5_goesBy_113 N o_people n o_s l2 = some (o_s', l2') → ∀ (H : Heap) (locs : List Loc) (ls : Array Slot), va_P (dC, dI) vwCl [(a_o, .inr (5, [.int o_thrown, .long o_trace, .ref a_o_text, .int o_typed, .int o_next, .int o_token, .int o_place, .int o_value, .int o_fault, .ref a_o_need, .ref a_o_made, .ref a_o_skillTold, .ref a_o_placeTold, .ref a_o_skips, .ref a_o_wheelTold, .int o_trades, .int o_people, .int o_draftTrades, .int o_draftPeople, .int o_isShut, .ref a_o_tunes, .ref a_o_s, .ref a_o_spare, .ref a_o_kept, .ref a_o_isKept, .ref a_o_makes, .ref a_o_works, .ref a_o_order, .int o_falling])), (a_o_need, .inl (cI, 12, .inl o_need)), (a_o_made, .inl (cI, 12, .inl o_made)), (a_o_skips, .inl (cI, 12, .inl o_skips)), (a_o_tunes, .inl (cI, 3, .inl o_tunes)), (a_o_s, .inl (cI, 105, .inl o_s)), (a_o_makes, .inl (cI, 6, .inl o_makes)), (a_o_works, .inl (cI, 6, .inl o_works))] H → va_D A [(a_o, .inr (5, [.int o_thrown, .long o_trace, .ref a_o_text, .int o_typed, .int o_next, .int o_token, .int o_place, .int o_value, .int o_fault, .ref a_o_need, .ref a_o_made, .ref a_o_skillTold, .ref a_o_placeTold, .ref a_o_skips, .ref a_o_wheelTold, .int o_trades, .int o_people, .int o_draftTrades, .int o_draftPeople, .int o_isShut, .ref a_o_tunes, .ref a_o_s, .ref a_o_spare, .ref a_o_kept, .ref a_o_isKept, .ref a_o_makes, .ref a_o_works, .ref a_o_order, .int o_falling])), (a_o_need, .inl (cI, 12, .inl o_need)), (a_o_made, .inl (cI, 12, .inl o_made)), (a_o_skips, .inl (cI, 12, .inl o_skips)), (a_o_tunes, .inl (cI, 3, .inl o_tunes)), (a_o_s, .inl (cI, 105, .inl o_s)), (a_o_makes, .inl (cI, 6, .inl o_makes)), (a_o_works, .inl (cI, 6, .inl o_works))] → va_S A s.heap H locs → lv_has ls 4 [(0, .ref a_o), (1, .int l1), (2, .int l2)] → (∀ (H : Heap) (locs : List Loc) (ls : Array Slot), va_P (dC, dI) vwCl [(a_o, .inr (5, [.int o_thrown, .long o_trace, .ref a_o_text, .int o_typed, .int o_next, .int o_token, .int o_place, .int o_value, .int o_fault, .ref a_o_need, .ref a_o_made, .ref a_o_skillTold, .ref a_o_placeTold, .ref a_o_skips, .ref a_o_wheelTold, .int o_trades, .int o_people, .int o_draftTrades, .int o_draftPeople, .int o_isShut, .ref a_o_tunes, .ref a_o_s, .ref a_o_spare, .ref a_o_kept, .ref a_o_isKept, .ref a_o_makes, .ref a_o_works, .ref a_o_order, .int o_falling])), (a_o_need, .inl (cI, 12, .inl o_need)), (a_o_made, .inl (cI, 12, .inl o_made)), (a_o_skips, .inl (cI, 12, .inl o_skips)), (a_o_tunes, .inl (cI, 3, .inl o_tunes)), (a_o_s, .inl (cI, 105, .inl o_s')), (a_o_makes, .inl (cI, 6, .inl o_makes)), (a_o_works, .inl (cI, 6, .inl o_works))] H → va_D A [(a_o, .inr (5, [.int o_thrown, .long o_trace, .ref a_o_text, .int o_typed, .int o_next, .int o_token, .int o_place, .int o_value, .int o_fault, .ref a_o_need, .ref a_o_made, .ref a_o_skillTold, .ref a_o_placeTold, .ref a_o_skips, .ref a_o_wheelTold, .int o_trades, .int o_people, .int o_draftTrades, .int o_draftPeople, .int o_isShut, .ref a_o_tunes, .ref a_o_s, .ref a_o_spare, .ref a_o_kept, .ref a_o_isKept, .ref a_o_makes, .ref a_o_works, .ref a_o_order, .int o_falling])), (a_o_need, .inl (cI, 12, .inl o_need)), (a_o_made, .inl (cI, 12, .inl o_made)), (a_o_skips, .inl (cI, 12, .inl o_skips)), (a_o_tunes, .inl (cI, 3, .inl o_tunes)), (a_o_s, .inl (cI, 105, .inl o_s')), (a_o_makes, .inl (cI, 6, .inl o_makes)), (a_o_works, .inl (cI, 6, .inl o_works))] → va_S A s.heap H locs → lv_has ls 4 [(0, .ref a_o), (1, .int l1)] → W p l e (headSpec wsX5_goesBy rmX5_goesBy).room s m args below meth c H locs 0 0 Q (F0 m 138 ls [])) → W p l e (headSpec wsX5_goesBy rmX5_goesBy).room s m args below meth c H locs 0 0 Q (F0 m 113 ls []) := by
  obtain ⟨hx, hb, hr, hml, hown, hts, hlocks, hA, hK, hN⟩ := id hg0
  have hF : CallFix p m c cX5_goesBy 4 s args wsX5_goesBy RX5 := ⟨hx, hb, hml, hown, hts⟩
  intro n
  induction n with
  | zero =>
    intro o_s l2 o_s' l2' hf
    have hf := fX5_goesBy_113_0.symm.trans hf
    cases hf
  | succ n ih =>
    intro o_s l2 o_s' l2' hf H locs ls hP hD hS hl kx
    have hf := fX5_goesBy_113_s.symm.trans hf
    refine lv_iload_n hx hb dX5_goesBy_113 rfl (lv_at hl 2 rfl) ?_
    refine lv_aload_n hx hb dX5_goesBy_114 rfl (lv_at hl 0 rfl) ?_
    refine va_get (D := (dC, dI)) (ci := 5) (v := .int o_people) (C := RX5) (T := TX5) (N := 29) hx hb hts uX5_goesBy_X5 hown hK hP 0 rfl rfl 16 (by decide) (hts _ mX5_goesBy_0) (fun _ h9 => h9) rfl dX5_goesBy_115 ?_
    refine lv_icmp_ge (tgt := 138) hx hb dX5_goesBy_118 (by decide) (fun c_1 => ?_) (fun c_1 => ?_)
    · have hf := pit hf c_1
      have q0 := Option.some.inj hf
      obtain ⟨e0, q1⟩ := Prod.mk.inj q0
      subst e0
      subst q1
      exact kx _ _ _ hP hD hS (lv_sub hl [0, 1] rfl)
    · have hf := pif hf c_1
      refine lv_aload_n hx hb dX5_goesBy_121 rfl (lv_at hl 0 rfl) ?_
      refine va_get (D := (dC, dI)) (ci := 5) (v := .ref a_o_s) (C := RX5) (T := TX5) (N := 29) hx hb hts uX5_goesBy_X5 hown hK hP 0 rfl rfl 21 (by decide) (hts _ mX5_goesBy_1) (fun _ h9 => h9) rfl dX5_goesBy_122 ?_
      refine lv_bipush (v := (26 : Int32)) hx hb dX5_goesBy_125 (by decide) ?_
      refine lv_iload_n hx hb dX5_goesBy_127 rfl (lv_at hl 2 rfl) ?_
      refine lv_iadd hx hb dX5_goesBy_128 ?_
      refine lv_bipush (v := (-9 : Int32)) hx hb dX5_goesBy_129 (by decide) ?_
      obtain ⟨h_2, hf⟩ := pgd hf
      refine va_iast hx hb hK hP hD hS 5 1 rfl rfl h_2 dX5_goesBy_131 (fun H locs hP hD hS => ?_)
      have hP : va_P (dC, dI) vwCl [(a_o, .inr (5, [.int o_thrown, .long o_trace, .ref a_o_text, .int o_typed, .int o_next, .int o_token, .int o_place, .int o_value, .int o_fault, .ref a_o_need, .ref a_o_made, .ref a_o_skillTold, .ref a_o_placeTold, .ref a_o_skips, .ref a_o_wheelTold, .int o_trades, .int o_people, .int o_draftTrades, .int o_draftPeople, .int o_isShut, .ref a_o_tunes, .ref a_o_s, .ref a_o_spare, .ref a_o_kept, .ref a_o_isKept, .ref a_o_makes, .ref a_o_works, .ref a_o_order, .int o_falling])), (a_o_need, .inl (cI, 12, .inl o_need)), (a_o_made, .inl (cI, 12, .inl o_made)), (a_o_skips, .inl (cI, 12, .inl o_skips)), (a_o_tunes, .inl (cI, 3, .inl o_tunes)), (a_o_s, .inl (cI, 105, .inl (upd o_s ((26 : Int32) + l2).toNatClampNeg (-9 : Int32)))), (a_o_makes, .inl (cI, 6, .inl o_makes)), (a_o_works, .inl (cI, 6, .inl o_works))] H := hP
      have hD : va_D A [(a_o, .inr (5, [.int o_thrown, .long o_trace, .ref a_o_text, .int o_typed, .int o_next, .int o_token, .int o_place, .int o_value, .int o_fault, .ref a_o_need, .ref a_o_made, .ref a_o_skillTold, .ref a_o_placeTold, .ref a_o_skips, .ref a_o_wheelTold, .int o_trades, .int o_people, .int o_draftTrades, .int o_draftPeople, .int o_isShut, .ref a_o_tunes, .ref a_o_s, .ref a_o_spare, .ref a_o_kept, .ref a_o_isKept, .ref a_o_makes, .ref a_o_works, .ref a_o_order, .int o_falling])), (a_o_need, .inl (cI, 12, .inl o_need)), (a_o_made, .inl (cI, 12, .inl o_made)), (a_o_skips, .inl (cI, 12, .inl o_skips)), (a_o_tunes, .inl (cI, 3, .inl o_tunes)), (a_o_s, .inl (cI, 105, .inl (upd o_s ((26 : Int32) + l2).toNatClampNeg (-9 : Int32)))), (a_o_makes, .inl (cI, 6, .inl o_makes)), (a_o_works, .inl (cI, 6, .inl o_works))] := hD
      refine lv_iinc (v := (l2 + 1)) (lv' := [(2, .int (l2 + 1)), (0, .ref a_o), (1, .int l1)]) hx hb dX5_goesBy_132 hl (k := 2) rfl rfl (by decide) rfl (fun ls hl => ?_)
      refine lv_goto (tgt := 113) hx hb dX5_goesBy_135 (by decide) ?_
      exact ih _ _ _ _ hf _ _ _ hP hD hS (lv_sub hl [1, 2, 0] rfl) kx
set_option maxHeartbeats 4000000 in
set_option maxRecDepth 100000 in
theorem kX5_goesBy (l : Launch) (dC : Nat → ClassId) (dI : Nat → Nat → Nat) (Z : gZ) (cC cI cZ cW : ClassId) (a_o a_o_text a_o_need a_o_made a_o_skillTold a_o_placeTold a_o_skips a_o_wheelTold a_o_tunes a_o_s a_o_spare a_o_kept a_o_isKept a_o_makes a_o_works a_o_order : Nat) (sz : Nat) (o_thrown : Int32) (o_trace : Int64) (o_typed : Int32) (o_next : Int32) (o_token : Int32) (o_place : Int32) (o_value : Int32) (o_fault : Int32) (o_trades : Int32) (o_people : Int32) (o_draftTrades : Int32) (o_draftPeople : Int32) (o_isShut : Int32) (o_falling : Int32) (o_need : Nat → Int32) (o_made : Nat → Int32) (o_skips : Nat → Int32) (o_tunes : Nat → Int32) (o_s : Nat → Int32) (o_makes : Nat → Int32) (o_works : Nat → Int32)  (N : Nat) (r' : Int32) (o_s' : Nat → Int32) (o_makes' : Nat → Int32) (o_works' : Nat → Int32) (hf : fX5_goesBy N o_trades o_people o_need o_made o_skips o_tunes o_s o_makes o_works   = some (r', o_s', o_makes', o_works')) : Met l yX5_goesBy wsX5_goesBy rmX5_goesBy (va_Pc [.ref a_o] (gB (dC, dI) Z [(cC, .char), (cI, .int), (cZ, .boolean), (cW, .object RX3)] [(a_o, .inr (5, [.int o_thrown, .long o_trace, .ref a_o_text, .int o_typed, .int o_next, .int o_token, .int o_place, .int o_value, .int o_fault, .ref a_o_need, .ref a_o_made, .ref a_o_skillTold, .ref a_o_placeTold, .ref a_o_skips, .ref a_o_wheelTold, .int o_trades, .int o_people, .int o_draftTrades, .int o_draftPeople, .int o_isShut, .ref a_o_tunes, .ref a_o_s, .ref a_o_spare, .ref a_o_kept, .ref a_o_isKept, .ref a_o_makes, .ref a_o_works, .ref a_o_order, .int o_falling])), (a_o_need, .inl (cI, 12, .inl o_need)), (a_o_made, .inl (cI, 12, .inl o_made)), (a_o_skips, .inl (cI, 12, .inl o_skips)), (a_o_tunes, .inl (cI, 3, .inl o_tunes)), (a_o_s, .inl (cI, 105, .inl o_s)), (a_o_makes, .inl (cI, 6, .inl o_makes)), (a_o_works, .inl (cI, 6, .inl o_works))] sz)) (va_Qi (fun (r : Int32) (_ : Unit) => r = r') (gE (dC, dI) [(a_o, .inr (5, [.int o_thrown, .long o_trace, .ref a_o_text, .int o_typed, .int o_next, .int o_token, .int o_place, .int o_value, .int o_fault, .ref a_o_need, .ref a_o_made, .ref a_o_skillTold, .ref a_o_placeTold, .ref a_o_skips, .ref a_o_wheelTold, .int o_trades, .int o_people, .int o_draftTrades, .int o_draftPeople, .int o_isShut, .ref a_o_tunes, .ref a_o_s, .ref a_o_spare, .ref a_o_kept, .ref a_o_isKept, .ref a_o_makes, .ref a_o_works, .ref a_o_order, .int o_falling])), (a_o_need, .inl (cI, 12, .inl o_need)), (a_o_made, .inl (cI, 12, .inl o_made)), (a_o_skips, .inl (cI, 12, .inl o_skips)), (a_o_tunes, .inl (cI, 3, .inl o_tunes)), (a_o_s, .inl (cI, 105, .inl o_s')), (a_o_makes, .inl (cI, 6, .inl o_makes')), (a_o_works, .inl (cI, 6, .inl o_works'))]) (va_A [(a_o, .inr (5, [.int o_thrown, .long o_trace, .ref a_o_text, .int o_typed, .int o_next, .int o_token, .int o_place, .int o_value, .int o_fault, .ref a_o_need, .ref a_o_made, .ref a_o_skillTold, .ref a_o_placeTold, .ref a_o_skips, .ref a_o_wheelTold, .int o_trades, .int o_people, .int o_draftTrades, .int o_draftPeople, .int o_isShut, .ref a_o_tunes, .ref a_o_s, .ref a_o_spare, .ref a_o_kept, .ref a_o_isKept, .ref a_o_makes, .ref a_o_works, .ref a_o_order, .int o_falling])), (a_o_need, .inl (cI, 12, .inl o_need)), (a_o_made, .inl (cI, 12, .inl o_made)), (a_o_skips, .inl (cI, 12, .inl o_skips)), (a_o_tunes, .inl (cI, 3, .inl o_tunes)), (a_o_s, .inl (cI, 105, .inl o_s)), (a_o_makes, .inl (cI, 6, .inl o_makes)), (a_o_works, .inl (cI, 6, .inl o_works))] sz)) 0 0 (va_A [(a_o, .inr (5, [.int o_thrown, .long o_trace, .ref a_o_text, .int o_typed, .int o_next, .int o_token, .int o_place, .int o_value, .int o_fault, .ref a_o_need, .ref a_o_made, .ref a_o_skillTold, .ref a_o_placeTold, .ref a_o_skips, .ref a_o_wheelTold, .int o_trades, .int o_people, .int o_draftTrades, .int o_draftPeople, .int o_isShut, .ref a_o_tunes, .ref a_o_s, .ref a_o_spare, .ref a_o_kept, .ref a_o_isKept, .ref a_o_makes, .ref a_o_works, .ref a_o_order, .int o_falling])), (a_o_need, .inl (cI, 12, .inl o_need)), (a_o_made, .inl (cI, 12, .inl o_made)), (a_o_skips, .inl (cI, 12, .inl o_skips)), (a_o_tunes, .inl (cI, 3, .inl o_tunes)), (a_o_s, .inl (cI, 105, .inl o_s)), (a_o_makes, .inl (cI, 6, .inl o_makes)), (a_o_works, .inl (cI, 6, .inl o_works))] sz) := by
  refine gMet (cc := cX5_goesBy) (maxL := 4) (ret := (some .int)) (Qc := fun A => va_Qi (fun (r : Int32) (_ : Unit) => r = r') (gE (dC, dI) [(a_o, .inr (5, [.int o_thrown, .long o_trace, .ref a_o_text, .int o_typed, .int o_next, .int o_token, .int o_place, .int o_value, .int o_fault, .ref a_o_need, .ref a_o_made, .ref a_o_skillTold, .ref a_o_placeTold, .ref a_o_skips, .ref a_o_wheelTold, .int o_trades, .int o_people, .int o_draftTrades, .int o_draftPeople, .int o_isShut, .ref a_o_tunes, .ref a_o_s, .ref a_o_spare, .ref a_o_kept, .ref a_o_isKept, .ref a_o_makes, .ref a_o_works, .ref a_o_order, .int o_falling])), (a_o_need, .inl (cI, 12, .inl o_need)), (a_o_made, .inl (cI, 12, .inl o_made)), (a_o_skips, .inl (cI, 12, .inl o_skips)), (a_o_tunes, .inl (cI, 3, .inl o_tunes)), (a_o_s, .inl (cI, 105, .inl o_s')), (a_o_makes, .inl (cI, 6, .inl o_makes')), (a_o_works, .inl (cI, 6, .inl o_works'))]) A) (by decide) rfl (Nat.le_of_ble_eq_true rfl) ?_
  intro p e s m below meth c A ls hg0 _ hsz hP hD hS hl
  have hg0 : gX p s m _ meth c cX5_goesBy 4 (some .int) wsX5_goesBy RX5 (dC, dI) Z [(cC, .char), (cI, .int), (cZ, .boolean), (cW, .object RX3)] A := hg0
  obtain ⟨hx, hb, hr, hml, hown, hts, hlocks, hA, hK, hN⟩ := id hg0
  subst hsz
  have hF : CallFix p m c cX5_goesBy 4 s _ wsX5_goesBy RX5 := ⟨hx, hb, hml, hown, hts⟩
  have hl : lv_has ls 4 [(0, .ref a_o)] := hl
  unfold fX5_goesBy at hf
  refine lv_aload_n hx hb dX5_goesBy_0 rfl (lv_at hl 0 rfl) ?_
  obtain ⟨o_s_1, o_makes_2, o_works_3, hc, hf⟩ := pb3 hf
  refine gCv (va_runV (As := []) (rest := []) hF (kX5_workAll l dC dI Z cC cI cZ cW a_o a_o_text a_o_need a_o_made a_o_skillTold a_o_placeTold a_o_skips a_o_wheelTold a_o_tunes a_o_s a_o_spare a_o_kept a_o_isKept a_o_makes a_o_works a_o_order _ o_thrown o_trace o_typed o_next o_token o_place o_value o_fault o_trades o_people o_draftTrades o_draftPeople o_isShut o_falling o_made o_skips o_s o_makes o_works  N o_s_1 o_makes_2 o_works_3 hc) (cwV 0 hts gX5_goesBy_X5_workAll rfl rfl rfl (by decide +kernel) ⟨Nat.le_of_ble_eq_true rfl, Nat.le_of_ble_eq_true rfl⟩) (gPV (wc := [(a_o, .inr (5, [.int o_thrown, .long o_trace, .ref a_o_text, .int o_typed, .int o_next, .int o_token, .int o_place, .int o_value, .int o_fault, .ref a_o_need, .ref a_o_made, .ref a_o_skillTold, .ref a_o_placeTold, .ref a_o_skips, .ref a_o_wheelTold, .int o_trades, .int o_people, .int o_draftTrades, .int o_draftPeople, .int o_isShut, .ref a_o_tunes, .ref a_o_s, .ref a_o_spare, .ref a_o_kept, .ref a_o_isKept, .ref a_o_makes, .ref a_o_works, .ref a_o_order, .int o_falling])), (a_o_made, .inl (cI, 12, .inl o_made)), (a_o_skips, .inl (cI, 12, .inl o_skips)), (a_o_s, .inl (cI, 105, .inl o_s)), (a_o_makes, .inl (cI, 6, .inl o_makes)), (a_o_works, .inl (cI, 6, .inl o_works))]) hK hN hA hS hP hD [0, 2, 3, 5, 6, 7] rfl rfl (q0 := 0) (ci := 5) rfl rfl rfl) rfl rfl hl.1 rfl (lv_room (Nat.le_of_ble_eq_true rfl)) dX5_goesBy_1 ⟨Nat.zero_le _, Nat.zero_le _⟩) hP hD hS hA [0, 2, 3, 5, 6, 7] rfl rfl rfl (fun H locs hP hD hS => ?_)
  have hP : va_P (dC, dI) vwCl [(a_o, .inr (5, [.int o_thrown, .long o_trace, .ref a_o_text, .int o_typed, .int o_next, .int o_token, .int o_place, .int o_value, .int o_fault, .ref a_o_need, .ref a_o_made, .ref a_o_skillTold, .ref a_o_placeTold, .ref a_o_skips, .ref a_o_wheelTold, .int o_trades, .int o_people, .int o_draftTrades, .int o_draftPeople, .int o_isShut, .ref a_o_tunes, .ref a_o_s, .ref a_o_spare, .ref a_o_kept, .ref a_o_isKept, .ref a_o_makes, .ref a_o_works, .ref a_o_order, .int o_falling])), (a_o_need, .inl (cI, 12, .inl o_need)), (a_o_made, .inl (cI, 12, .inl o_made)), (a_o_skips, .inl (cI, 12, .inl o_skips)), (a_o_tunes, .inl (cI, 3, .inl o_tunes)), (a_o_s, .inl (cI, 105, .inl o_s_1)), (a_o_makes, .inl (cI, 6, .inl o_makes_2)), (a_o_works, .inl (cI, 6, .inl o_works_3))] H := hP
  have hD : va_D A [(a_o, .inr (5, [.int o_thrown, .long o_trace, .ref a_o_text, .int o_typed, .int o_next, .int o_token, .int o_place, .int o_value, .int o_fault, .ref a_o_need, .ref a_o_made, .ref a_o_skillTold, .ref a_o_placeTold, .ref a_o_skips, .ref a_o_wheelTold, .int o_trades, .int o_people, .int o_draftTrades, .int o_draftPeople, .int o_isShut, .ref a_o_tunes, .ref a_o_s, .ref a_o_spare, .ref a_o_kept, .ref a_o_isKept, .ref a_o_makes, .ref a_o_works, .ref a_o_order, .int o_falling])), (a_o_need, .inl (cI, 12, .inl o_need)), (a_o_made, .inl (cI, 12, .inl o_made)), (a_o_skips, .inl (cI, 12, .inl o_skips)), (a_o_tunes, .inl (cI, 3, .inl o_tunes)), (a_o_s, .inl (cI, 105, .inl o_s_1)), (a_o_makes, .inl (cI, 6, .inl o_makes_2)), (a_o_works, .inl (cI, 6, .inl o_works_3))] := hD
  refine lv_aload_n hx hb dX5_goesBy_4 rfl (lv_at hl 0 rfl) ?_
  obtain ⟨r_4, o_s_5, hc, hf⟩ := pb2 hf
  refine gCi (va_runV (As := []) (rest := []) hF (kX5_takesNeeds l dC dI Z cC cI cZ cW a_o a_o_text a_o_need a_o_made a_o_skillTold a_o_placeTold a_o_skips a_o_wheelTold a_o_tunes a_o_s a_o_spare a_o_kept a_o_isKept a_o_makes a_o_works a_o_order _ o_thrown o_trace o_typed o_next o_token o_place o_value o_fault o_trades o_people o_draftTrades o_draftPeople o_isShut o_falling o_need o_tunes o_s_1  N r_4 o_s_5 hc) (cwV 0 hts gX5_goesBy_X5_takesNeeds rfl rfl rfl (by decide +kernel) ⟨Nat.le_of_ble_eq_true rfl, Nat.le_of_ble_eq_true rfl⟩) (gPV (wc := [(a_o, .inr (5, [.int o_thrown, .long o_trace, .ref a_o_text, .int o_typed, .int o_next, .int o_token, .int o_place, .int o_value, .int o_fault, .ref a_o_need, .ref a_o_made, .ref a_o_skillTold, .ref a_o_placeTold, .ref a_o_skips, .ref a_o_wheelTold, .int o_trades, .int o_people, .int o_draftTrades, .int o_draftPeople, .int o_isShut, .ref a_o_tunes, .ref a_o_s, .ref a_o_spare, .ref a_o_kept, .ref a_o_isKept, .ref a_o_makes, .ref a_o_works, .ref a_o_order, .int o_falling])), (a_o_need, .inl (cI, 12, .inl o_need)), (a_o_tunes, .inl (cI, 3, .inl o_tunes)), (a_o_s, .inl (cI, 105, .inl o_s_1))]) hK hN hA hS hP hD [0, 1, 4, 5] rfl rfl (q0 := 0) (ci := 5) rfl rfl rfl) rfl rfl hl.1 rfl (lv_room (Nat.le_of_ble_eq_true rfl)) dX5_goesBy_5 ⟨Nat.zero_le _, Nat.zero_le _⟩) hP hD hS hA [0, 1, 4, 5] rfl rfl rfl (fun H locs hP hD hS => ?_)
  have hP : va_P (dC, dI) vwCl [(a_o, .inr (5, [.int o_thrown, .long o_trace, .ref a_o_text, .int o_typed, .int o_next, .int o_token, .int o_place, .int o_value, .int o_fault, .ref a_o_need, .ref a_o_made, .ref a_o_skillTold, .ref a_o_placeTold, .ref a_o_skips, .ref a_o_wheelTold, .int o_trades, .int o_people, .int o_draftTrades, .int o_draftPeople, .int o_isShut, .ref a_o_tunes, .ref a_o_s, .ref a_o_spare, .ref a_o_kept, .ref a_o_isKept, .ref a_o_makes, .ref a_o_works, .ref a_o_order, .int o_falling])), (a_o_need, .inl (cI, 12, .inl o_need)), (a_o_made, .inl (cI, 12, .inl o_made)), (a_o_skips, .inl (cI, 12, .inl o_skips)), (a_o_tunes, .inl (cI, 3, .inl o_tunes)), (a_o_s, .inl (cI, 105, .inl o_s_5)), (a_o_makes, .inl (cI, 6, .inl o_makes_2)), (a_o_works, .inl (cI, 6, .inl o_works_3))] H := hP
  have hD : va_D A [(a_o, .inr (5, [.int o_thrown, .long o_trace, .ref a_o_text, .int o_typed, .int o_next, .int o_token, .int o_place, .int o_value, .int o_fault, .ref a_o_need, .ref a_o_made, .ref a_o_skillTold, .ref a_o_placeTold, .ref a_o_skips, .ref a_o_wheelTold, .int o_trades, .int o_people, .int o_draftTrades, .int o_draftPeople, .int o_isShut, .ref a_o_tunes, .ref a_o_s, .ref a_o_spare, .ref a_o_kept, .ref a_o_isKept, .ref a_o_makes, .ref a_o_works, .ref a_o_order, .int o_falling])), (a_o_need, .inl (cI, 12, .inl o_need)), (a_o_made, .inl (cI, 12, .inl o_made)), (a_o_skips, .inl (cI, 12, .inl o_skips)), (a_o_tunes, .inl (cI, 3, .inl o_tunes)), (a_o_s, .inl (cI, 105, .inl o_s_5)), (a_o_makes, .inl (cI, 6, .inl o_makes_2)), (a_o_works, .inl (cI, 6, .inl o_works_3))] := hD
  refine lv_istore_n (lv' := [(1, .int r_4), (0, .ref a_o)]) hx hb dX5_goesBy_8 rfl hl (by decide) rfl (fun ls hl => ?_)
  refine lv_iconst (v := (0 : Int32)) hx hb dX5_goesBy_9 (by decide) ?_
  refine lv_istore_n (lv' := [(2, .int (0 : Int32)), (1, .int r_4), (0, .ref a_o)]) hx hb dX5_goesBy_10 rfl hl (by decide) rfl (fun ls hl => ?_)
  obtain ⟨o_s_6, l2_7, hc, hf⟩ := pb2 hf
  refine wX5_goesBy_11 hg0 a_o a_o_text a_o_need a_o_made a_o_skillTold a_o_placeTold a_o_skips a_o_wheelTold a_o_tunes a_o_s a_o_spare a_o_kept a_o_isKept a_o_makes a_o_works a_o_order o_thrown o_trace o_typed o_next o_token o_place o_value o_fault o_trades o_people o_draftTrades o_draftPeople o_isShut o_falling o_need o_made o_skips o_tunes o_makes_2 o_works_3 r_4 N N o_s_5 (0 : Int32) o_s_6 l2_7 hc _ _ _ hP hD hS (lv_sub hl [2, 1, 0] rfl) (fun H locs ls hP hD hS hl => ?_)
  refine lv_iconst (v := (0 : Int32)) hx hb dX5_goesBy_111 (by decide) ?_
  refine lv_istore_n (lv' := [(2, .int (0 : Int32)), (0, .ref a_o), (1, .int r_4)]) hx hb dX5_goesBy_112 rfl hl (by decide) rfl (fun ls hl => ?_)
  obtain ⟨o_s_8, l2_9, hc, hf⟩ := pb2 hf
  refine wX5_goesBy_113 hg0 a_o a_o_text a_o_need a_o_made a_o_skillTold a_o_placeTold a_o_skips a_o_wheelTold a_o_tunes a_o_s a_o_spare a_o_kept a_o_isKept a_o_makes a_o_works a_o_order o_thrown o_trace o_typed o_next o_token o_place o_value o_fault o_trades o_people o_draftTrades o_draftPeople o_isShut o_falling o_need o_made o_skips o_tunes o_makes_2 o_works_3 r_4 N N o_s_6 (0 : Int32) o_s_8 l2_9 hc _ _ _ hP hD hS (lv_sub hl [1, 2, 0] rfl) (fun H locs ls hP hD hS hl => ?_)
  refine lv_aload_n hx hb dX5_goesBy_138 rfl (lv_at hl 0 rfl) ?_
  refine va_get (D := (dC, dI)) (ci := 5) (v := .ref a_o_s) (C := RX5) (T := TX5) (N := 29) hx hb hts uX5_goesBy_X5 hown hK hP 0 rfl rfl 21 (by decide) (hts _ mX5_goesBy_1) (fun _ h9 => h9) rfl dX5_goesBy_139 ?_
  refine lv_bipush (v := (32 : Int32)) hx hb dX5_goesBy_142 (by decide) ?_
  refine lv_iconst (v := (0 : Int32)) hx hb dX5_goesBy_144 (by decide) ?_
  obtain ⟨h_10, hf⟩ := pgd hf
  refine va_iast hx hb hK hP hD hS 5 1 rfl rfl h_10 dX5_goesBy_145 (fun H locs hP hD hS => ?_)
  have hP : va_P (dC, dI) vwCl [(a_o, .inr (5, [.int o_thrown, .long o_trace, .ref a_o_text, .int o_typed, .int o_next, .int o_token, .int o_place, .int o_value, .int o_fault, .ref a_o_need, .ref a_o_made, .ref a_o_skillTold, .ref a_o_placeTold, .ref a_o_skips, .ref a_o_wheelTold, .int o_trades, .int o_people, .int o_draftTrades, .int o_draftPeople, .int o_isShut, .ref a_o_tunes, .ref a_o_s, .ref a_o_spare, .ref a_o_kept, .ref a_o_isKept, .ref a_o_makes, .ref a_o_works, .ref a_o_order, .int o_falling])), (a_o_need, .inl (cI, 12, .inl o_need)), (a_o_made, .inl (cI, 12, .inl o_made)), (a_o_skips, .inl (cI, 12, .inl o_skips)), (a_o_tunes, .inl (cI, 3, .inl o_tunes)), (a_o_s, .inl (cI, 105, .inl (upd o_s_8 (32 : Int32).toNatClampNeg (0 : Int32)))), (a_o_makes, .inl (cI, 6, .inl o_makes_2)), (a_o_works, .inl (cI, 6, .inl o_works_3))] H := hP
  have hD : va_D A [(a_o, .inr (5, [.int o_thrown, .long o_trace, .ref a_o_text, .int o_typed, .int o_next, .int o_token, .int o_place, .int o_value, .int o_fault, .ref a_o_need, .ref a_o_made, .ref a_o_skillTold, .ref a_o_placeTold, .ref a_o_skips, .ref a_o_wheelTold, .int o_trades, .int o_people, .int o_draftTrades, .int o_draftPeople, .int o_isShut, .ref a_o_tunes, .ref a_o_s, .ref a_o_spare, .ref a_o_kept, .ref a_o_isKept, .ref a_o_makes, .ref a_o_works, .ref a_o_order, .int o_falling])), (a_o_need, .inl (cI, 12, .inl o_need)), (a_o_made, .inl (cI, 12, .inl o_made)), (a_o_skips, .inl (cI, 12, .inl o_skips)), (a_o_tunes, .inl (cI, 3, .inl o_tunes)), (a_o_s, .inl (cI, 105, .inl (upd o_s_8 (32 : Int32).toNatClampNeg (0 : Int32)))), (a_o_makes, .inl (cI, 6, .inl o_makes_2)), (a_o_works, .inl (cI, 6, .inl o_works_3))] := hD
  refine lv_aload_n hx hb dX5_goesBy_146 rfl (lv_at hl 0 rfl) ?_
  refine va_get (D := (dC, dI)) (ci := 5) (v := .ref a_o_s) (C := RX5) (T := TX5) (N := 29) hx hb hts uX5_goesBy_X5 hown hK hP 0 rfl rfl 21 (by decide) (hts _ mX5_goesBy_1) (fun _ h9 => h9) rfl dX5_goesBy_147 ?_
  refine lv_iconst (v := (0 : Int32)) hx hb dX5_goesBy_150 (by decide) ?_
  refine lv_dup2_11 hx hb dX5_goesBy_151 rfl rfl ?_
  obtain ⟨h_11, hf⟩ := pgd hf
  refine va_iald hx hb hK hP 5 1 rfl rfl h_11 dX5_goesBy_152 ?_
  refine lv_iconst (v := (1 : Int32)) hx hb dX5_goesBy_153 (by decide) ?_
  refine lv_iadd hx hb dX5_goesBy_154 ?_
  obtain ⟨h_12, hf⟩ := pgd hf
  refine va_iast hx hb hK hP hD hS 5 1 rfl rfl h_12 dX5_goesBy_155 (fun H locs hP hD hS => ?_)
  have hP : va_P (dC, dI) vwCl [(a_o, .inr (5, [.int o_thrown, .long o_trace, .ref a_o_text, .int o_typed, .int o_next, .int o_token, .int o_place, .int o_value, .int o_fault, .ref a_o_need, .ref a_o_made, .ref a_o_skillTold, .ref a_o_placeTold, .ref a_o_skips, .ref a_o_wheelTold, .int o_trades, .int o_people, .int o_draftTrades, .int o_draftPeople, .int o_isShut, .ref a_o_tunes, .ref a_o_s, .ref a_o_spare, .ref a_o_kept, .ref a_o_isKept, .ref a_o_makes, .ref a_o_works, .ref a_o_order, .int o_falling])), (a_o_need, .inl (cI, 12, .inl o_need)), (a_o_made, .inl (cI, 12, .inl o_made)), (a_o_skips, .inl (cI, 12, .inl o_skips)), (a_o_tunes, .inl (cI, 3, .inl o_tunes)), (a_o_s, .inl (cI, 105, .inl (upd (upd o_s_8 (32 : Int32).toNatClampNeg (0 : Int32)) (0 : Int32).toNatClampNeg (((upd o_s_8 (32 : Int32).toNatClampNeg (0 : Int32)) (0 : Int32).toNatClampNeg) + (1 : Int32))))), (a_o_makes, .inl (cI, 6, .inl o_makes_2)), (a_o_works, .inl (cI, 6, .inl o_works_3))] H := hP
  have hD : va_D A [(a_o, .inr (5, [.int o_thrown, .long o_trace, .ref a_o_text, .int o_typed, .int o_next, .int o_token, .int o_place, .int o_value, .int o_fault, .ref a_o_need, .ref a_o_made, .ref a_o_skillTold, .ref a_o_placeTold, .ref a_o_skips, .ref a_o_wheelTold, .int o_trades, .int o_people, .int o_draftTrades, .int o_draftPeople, .int o_isShut, .ref a_o_tunes, .ref a_o_s, .ref a_o_spare, .ref a_o_kept, .ref a_o_isKept, .ref a_o_makes, .ref a_o_works, .ref a_o_order, .int o_falling])), (a_o_need, .inl (cI, 12, .inl o_need)), (a_o_made, .inl (cI, 12, .inl o_made)), (a_o_skips, .inl (cI, 12, .inl o_skips)), (a_o_tunes, .inl (cI, 3, .inl o_tunes)), (a_o_s, .inl (cI, 105, .inl (upd (upd o_s_8 (32 : Int32).toNatClampNeg (0 : Int32)) (0 : Int32).toNatClampNeg (((upd o_s_8 (32 : Int32).toNatClampNeg (0 : Int32)) (0 : Int32).toNatClampNeg) + (1 : Int32))))), (a_o_makes, .inl (cI, 6, .inl o_makes_2)), (a_o_works, .inl (cI, 6, .inl o_works_3))] := hD
  refine lv_iload_n hx hb dX5_goesBy_156 rfl (lv_at hl 1 rfl) ?_
  have q0 := Option.some.inj hf
  obtain ⟨e0, q1⟩ := Prod.mk.inj q0
  obtain ⟨e1, q2⟩ := Prod.mk.inj q1
  obtain ⟨e2, q3⟩ := Prod.mk.inj q2
  subst e0
  subst e1
  subst e2
  subst q3
  exact gRi hx hb hr hlocks hP hS dX5_goesBy_157
abbrev rmX5_help : Room := { frames := 2, cells := 0, slots := 0, locals := 43 }
set_option maxRecDepth 20000 in
theorem uX5_help_X5 : ∀ w ∈ wsX50, w ∈ wsX5_help := by decide +kernel
set_option maxRecDepth 20000 in
theorem mX5_help_0 : (Cond.fieldLink RX5 59 "TradeWheelModel" "thrown" "I" : Cond) ∈ wsX5_help := by decide +kernel
set_option maxRecDepth 20000 in
theorem mX5_help_1 : (Cond.fieldLink RX5 34 "TradeWheelModel" "s" "[I" : Cond) ∈ wsX5_help := by decide +kernel
set_option maxHeartbeats 4000000 in
set_option maxRecDepth 100000 in
theorem kX5_help (l : Launch) (dC : Nat → ClassId) (dI : Nat → Nat → Nat) (Z : gZ) (cC cI cZ cW : ClassId) (a_o a_o_text a_o_need a_o_made a_o_skillTold a_o_placeTold a_o_skips a_o_wheelTold a_o_tunes a_o_s a_o_spare a_o_kept a_o_isKept a_o_makes a_o_works a_o_order : Nat) (sz : Nat) (o_thrown : Int32) (o_trace : Int64) (o_typed : Int32) (o_next : Int32) (o_token : Int32) (o_place : Int32) (o_value : Int32) (o_fault : Int32) (o_trades : Int32) (o_people : Int32) (o_draftTrades : Int32) (o_draftPeople : Int32) (o_isShut : Int32) (o_falling : Int32) (o_s : Nat → Int32) (i1 : Int32) (i2 : Int32) (N : Nat) (r' : Int32) (o_thrown' : Int32) (o_s' : Nat → Int32) (hf : fX5_help N o_thrown o_people o_s  i1 i2 = some (r', o_thrown', o_s')) : Met l yX5_help wsX5_help rmX5_help (va_Pc [.ref a_o, .int i1, .int i2] (gB (dC, dI) Z [(cC, .char), (cI, .int), (cZ, .boolean), (cW, .object RX3)] [(a_o, .inr (5, [.int o_thrown, .long o_trace, .ref a_o_text, .int o_typed, .int o_next, .int o_token, .int o_place, .int o_value, .int o_fault, .ref a_o_need, .ref a_o_made, .ref a_o_skillTold, .ref a_o_placeTold, .ref a_o_skips, .ref a_o_wheelTold, .int o_trades, .int o_people, .int o_draftTrades, .int o_draftPeople, .int o_isShut, .ref a_o_tunes, .ref a_o_s, .ref a_o_spare, .ref a_o_kept, .ref a_o_isKept, .ref a_o_makes, .ref a_o_works, .ref a_o_order, .int o_falling])), (a_o_s, .inl (cI, 105, .inl o_s))] sz)) (va_Qi (fun (r : Int32) (_ : Unit) => r = r') (gE (dC, dI) [(a_o, .inr (5, [.int o_thrown', .long o_trace, .ref a_o_text, .int o_typed, .int o_next, .int o_token, .int o_place, .int o_value, .int o_fault, .ref a_o_need, .ref a_o_made, .ref a_o_skillTold, .ref a_o_placeTold, .ref a_o_skips, .ref a_o_wheelTold, .int o_trades, .int o_people, .int o_draftTrades, .int o_draftPeople, .int o_isShut, .ref a_o_tunes, .ref a_o_s, .ref a_o_spare, .ref a_o_kept, .ref a_o_isKept, .ref a_o_makes, .ref a_o_works, .ref a_o_order, .int o_falling])), (a_o_s, .inl (cI, 105, .inl o_s'))]) (va_A [(a_o, .inr (5, [.int o_thrown, .long o_trace, .ref a_o_text, .int o_typed, .int o_next, .int o_token, .int o_place, .int o_value, .int o_fault, .ref a_o_need, .ref a_o_made, .ref a_o_skillTold, .ref a_o_placeTold, .ref a_o_skips, .ref a_o_wheelTold, .int o_trades, .int o_people, .int o_draftTrades, .int o_draftPeople, .int o_isShut, .ref a_o_tunes, .ref a_o_s, .ref a_o_spare, .ref a_o_kept, .ref a_o_isKept, .ref a_o_makes, .ref a_o_works, .ref a_o_order, .int o_falling])), (a_o_s, .inl (cI, 105, .inl o_s))] sz)) 0 0 (va_A [(a_o, .inr (5, [.int o_thrown, .long o_trace, .ref a_o_text, .int o_typed, .int o_next, .int o_token, .int o_place, .int o_value, .int o_fault, .ref a_o_need, .ref a_o_made, .ref a_o_skillTold, .ref a_o_placeTold, .ref a_o_skips, .ref a_o_wheelTold, .int o_trades, .int o_people, .int o_draftTrades, .int o_draftPeople, .int o_isShut, .ref a_o_tunes, .ref a_o_s, .ref a_o_spare, .ref a_o_kept, .ref a_o_isKept, .ref a_o_makes, .ref a_o_works, .ref a_o_order, .int o_falling])), (a_o_s, .inl (cI, 105, .inl o_s))] sz) := by
  refine gMet (cc := cX5_help) (maxL := 3) (ret := (some .int)) (Qc := fun A => va_Qi (fun (r : Int32) (_ : Unit) => r = r') (gE (dC, dI) [(a_o, .inr (5, [.int o_thrown', .long o_trace, .ref a_o_text, .int o_typed, .int o_next, .int o_token, .int o_place, .int o_value, .int o_fault, .ref a_o_need, .ref a_o_made, .ref a_o_skillTold, .ref a_o_placeTold, .ref a_o_skips, .ref a_o_wheelTold, .int o_trades, .int o_people, .int o_draftTrades, .int o_draftPeople, .int o_isShut, .ref a_o_tunes, .ref a_o_s, .ref a_o_spare, .ref a_o_kept, .ref a_o_isKept, .ref a_o_makes, .ref a_o_works, .ref a_o_order, .int o_falling])), (a_o_s, .inl (cI, 105, .inl o_s'))]) A) (by decide) rfl (Nat.le_of_ble_eq_true rfl) ?_
  intro p e s m below meth c A ls hg0 _ hsz hP hD hS hl
  have hg0 : gX p s m _ meth c cX5_help 3 (some .int) wsX5_help RX5 (dC, dI) Z [(cC, .char), (cI, .int), (cZ, .boolean), (cW, .object RX3)] A := hg0
  obtain ⟨hx, hb, hr, hml, hown, hts, hlocks, hA, hK, hN⟩ := id hg0
  subst hsz
  have hF : CallFix p m c cX5_help 3 s _ wsX5_help RX5 := ⟨hx, hb, hml, hown, hts⟩
  have hl : lv_has ls 3 [(0, .ref a_o), (1, .int i1), (2, .int i2)] := hl
  unfold fX5_help at hf
  refine lv_aload_n hx hb dX5_help_0 rfl (lv_at hl 0 rfl) ?_
  refine lv_iconst (v := (0 : Int32)) hx hb dX5_help_1 (by decide) ?_
  refine va_put (D := (dC, dI)) (ci := 5) (v := .int (0 : Int32)) (ty := .int) (C := RX5) (T := TX5) (N := 29) hx hb hts uX5_help_X5 tyX5 tyX5_ok nmX5 hown hK hP hD hS 0 rfl rfl 0 (by decide) (hts _ mX5_help_0) (fun _ h9 => h9) rfl (by decide +kernel) rfl rfl (Nat.le_of_ble_eq_true rfl) dX5_help_2 (fun H locs hP hD hS => ?_)
  have hP : va_P (dC, dI) vwCl [(a_o, .inr (5, [.int (0 : Int32), .long o_trace, .ref a_o_text, .int o_typed, .int o_next, .int o_token, .int o_place, .int o_value, .int o_fault, .ref a_o_need, .ref a_o_made, .ref a_o_skillTold, .ref a_o_placeTold, .ref a_o_skips, .ref a_o_wheelTold, .int o_trades, .int o_people, .int o_draftTrades, .int o_draftPeople, .int o_isShut, .ref a_o_tunes, .ref a_o_s, .ref a_o_spare, .ref a_o_kept, .ref a_o_isKept, .ref a_o_makes, .ref a_o_works, .ref a_o_order, .int o_falling])), (a_o_s, .inl (cI, 105, .inl o_s))] H := hP
  have hD : va_D A [(a_o, .inr (5, [.int (0 : Int32), .long o_trace, .ref a_o_text, .int o_typed, .int o_next, .int o_token, .int o_place, .int o_value, .int o_fault, .ref a_o_need, .ref a_o_made, .ref a_o_skillTold, .ref a_o_placeTold, .ref a_o_skips, .ref a_o_wheelTold, .int o_trades, .int o_people, .int o_draftTrades, .int o_draftPeople, .int o_isShut, .ref a_o_tunes, .ref a_o_s, .ref a_o_spare, .ref a_o_kept, .ref a_o_isKept, .ref a_o_makes, .ref a_o_works, .ref a_o_order, .int o_falling])), (a_o_s, .inl (cI, 105, .inl o_s))] := hD
  refine lv_aload_n hx hb dX5_help_5 rfl (lv_at hl 0 rfl) ?_
  refine lv_iload_n hx hb dX5_help_6 rfl (lv_at hl 1 rfl) ?_
  obtain ⟨r_1, hc, hf⟩ := pb1 hf
  refine gCi (va_runV (As := [.int i1]) (rest := []) hF (kX5_isPerson l dC dI Z cC cI cZ cW a_o a_o_text a_o_need a_o_made a_o_skillTold a_o_placeTold a_o_skips a_o_wheelTold a_o_tunes a_o_s a_o_spare a_o_kept a_o_isKept a_o_makes a_o_works a_o_order _ (0 : Int32) o_trace o_typed o_next o_token o_place o_value o_fault o_trades o_people o_draftTrades o_draftPeople o_isShut o_falling i1 N r_1 hc) (cwV 1 hts gX5_help_X5_isPerson rfl rfl rfl (by decide +kernel) ⟨Nat.le_of_ble_eq_true rfl, Nat.le_of_ble_eq_true rfl⟩) (gPV (wc := [(a_o, .inr (5, [.int (0 : Int32), .long o_trace, .ref a_o_text, .int o_typed, .int o_next, .int o_token, .int o_place, .int o_value, .int o_fault, .ref a_o_need, .ref a_o_made, .ref a_o_skillTold, .ref a_o_placeTold, .ref a_o_skips, .ref a_o_wheelTold, .int o_trades, .int o_people, .int o_draftTrades, .int o_draftPeople, .int o_isShut, .ref a_o_tunes, .ref a_o_s, .ref a_o_spare, .ref a_o_kept, .ref a_o_isKept, .ref a_o_makes, .ref a_o_works, .ref a_o_order, .int o_falling]))]) hK hN hA hS hP hD [0] rfl rfl (q0 := 0) (ci := 5) rfl rfl rfl) rfl rfl hl.1 rfl (lv_room (Nat.le_of_ble_eq_true rfl)) dX5_help_7 ⟨Nat.zero_le _, Nat.zero_le _⟩) hP hD hS hA [0] rfl rfl rfl (fun H locs hP hD hS => ?_)
  have hP : va_P (dC, dI) vwCl [(a_o, .inr (5, [.int (0 : Int32), .long o_trace, .ref a_o_text, .int o_typed, .int o_next, .int o_token, .int o_place, .int o_value, .int o_fault, .ref a_o_need, .ref a_o_made, .ref a_o_skillTold, .ref a_o_placeTold, .ref a_o_skips, .ref a_o_wheelTold, .int o_trades, .int o_people, .int o_draftTrades, .int o_draftPeople, .int o_isShut, .ref a_o_tunes, .ref a_o_s, .ref a_o_spare, .ref a_o_kept, .ref a_o_isKept, .ref a_o_makes, .ref a_o_works, .ref a_o_order, .int o_falling])), (a_o_s, .inl (cI, 105, .inl o_s))] H := hP
  have hD : va_D A [(a_o, .inr (5, [.int (0 : Int32), .long o_trace, .ref a_o_text, .int o_typed, .int o_next, .int o_token, .int o_place, .int o_value, .int o_fault, .ref a_o_need, .ref a_o_made, .ref a_o_skillTold, .ref a_o_placeTold, .ref a_o_skips, .ref a_o_wheelTold, .int o_trades, .int o_people, .int o_draftTrades, .int o_draftPeople, .int o_isShut, .ref a_o_tunes, .ref a_o_s, .ref a_o_spare, .ref a_o_kept, .ref a_o_isKept, .ref a_o_makes, .ref a_o_works, .ref a_o_order, .int o_falling])), (a_o_s, .inl (cI, 105, .inl o_s))] := hD
  refine lv_if_eq (tgt := 26) hx hb dX5_help_10 (by decide) (fun c_2 => ?_) (fun c_2 => ?_)
  · have hf := pit hf c_2
    refine lv_iconst (v := (-1 : Int32)) hx hb dX5_help_26 (by decide) ?_
    have q0 := Option.some.inj hf
    obtain ⟨e0, q1⟩ := Prod.mk.inj q0
    obtain ⟨e1, q2⟩ := Prod.mk.inj q1
    subst e0
    subst e1
    subst q2
    exact gRi hx hb hr hlocks hP hS dX5_help_27
  · have hf := pif hf c_2
    refine lv_aload_n hx hb dX5_help_13 rfl (lv_at hl 0 rfl) ?_
    refine lv_iload_n hx hb dX5_help_14 rfl (lv_at hl 2 rfl) ?_
    obtain ⟨r_3, hc, hf⟩ := pb1 hf
    refine gCi (va_runV (As := [.int i2]) (rest := []) hF (kX5_isPerson l dC dI Z cC cI cZ cW a_o a_o_text a_o_need a_o_made a_o_skillTold a_o_placeTold a_o_skips a_o_wheelTold a_o_tunes a_o_s a_o_spare a_o_kept a_o_isKept a_o_makes a_o_works a_o_order _ (0 : Int32) o_trace o_typed o_next o_token o_place o_value o_fault o_trades o_people o_draftTrades o_draftPeople o_isShut o_falling i2 N r_3 hc) (cwV 1 hts gX5_help_X5_isPerson rfl rfl rfl (by decide +kernel) ⟨Nat.le_of_ble_eq_true rfl, Nat.le_of_ble_eq_true rfl⟩) (gPV (wc := [(a_o, .inr (5, [.int (0 : Int32), .long o_trace, .ref a_o_text, .int o_typed, .int o_next, .int o_token, .int o_place, .int o_value, .int o_fault, .ref a_o_need, .ref a_o_made, .ref a_o_skillTold, .ref a_o_placeTold, .ref a_o_skips, .ref a_o_wheelTold, .int o_trades, .int o_people, .int o_draftTrades, .int o_draftPeople, .int o_isShut, .ref a_o_tunes, .ref a_o_s, .ref a_o_spare, .ref a_o_kept, .ref a_o_isKept, .ref a_o_makes, .ref a_o_works, .ref a_o_order, .int o_falling]))]) hK hN hA hS hP hD [0] rfl rfl (q0 := 0) (ci := 5) rfl rfl rfl) rfl rfl hl.1 rfl (lv_room (Nat.le_of_ble_eq_true rfl)) dX5_help_15 ⟨Nat.zero_le _, Nat.zero_le _⟩) hP hD hS hA [0] rfl rfl rfl (fun H locs hP hD hS => ?_)
    have hP : va_P (dC, dI) vwCl [(a_o, .inr (5, [.int (0 : Int32), .long o_trace, .ref a_o_text, .int o_typed, .int o_next, .int o_token, .int o_place, .int o_value, .int o_fault, .ref a_o_need, .ref a_o_made, .ref a_o_skillTold, .ref a_o_placeTold, .ref a_o_skips, .ref a_o_wheelTold, .int o_trades, .int o_people, .int o_draftTrades, .int o_draftPeople, .int o_isShut, .ref a_o_tunes, .ref a_o_s, .ref a_o_spare, .ref a_o_kept, .ref a_o_isKept, .ref a_o_makes, .ref a_o_works, .ref a_o_order, .int o_falling])), (a_o_s, .inl (cI, 105, .inl o_s))] H := hP
    have hD : va_D A [(a_o, .inr (5, [.int (0 : Int32), .long o_trace, .ref a_o_text, .int o_typed, .int o_next, .int o_token, .int o_place, .int o_value, .int o_fault, .ref a_o_need, .ref a_o_made, .ref a_o_skillTold, .ref a_o_placeTold, .ref a_o_skips, .ref a_o_wheelTold, .int o_trades, .int o_people, .int o_draftTrades, .int o_draftPeople, .int o_isShut, .ref a_o_tunes, .ref a_o_s, .ref a_o_spare, .ref a_o_kept, .ref a_o_isKept, .ref a_o_makes, .ref a_o_works, .ref a_o_order, .int o_falling])), (a_o_s, .inl (cI, 105, .inl o_s))] := hD
    refine lv_if_eq (tgt := 26) hx hb dX5_help_18 (by decide) (fun c_4 => ?_) (fun c_4 => ?_)
    · have hf := pit hf c_4
      refine lv_iconst (v := (-1 : Int32)) hx hb dX5_help_26 (by decide) ?_
      have q0 := Option.some.inj hf
      obtain ⟨e0, q1⟩ := Prod.mk.inj q0
      obtain ⟨e1, q2⟩ := Prod.mk.inj q1
      subst e0
      subst e1
      subst q2
      exact gRi hx hb hr hlocks hP hS dX5_help_27
    · have hf := pif hf c_4
      refine lv_iload_n hx hb dX5_help_21 rfl (lv_at hl 1 rfl) ?_
      refine lv_iload_n hx hb dX5_help_22 rfl (lv_at hl 2 rfl) ?_
      refine lv_icmp_ne (tgt := 28) hx hb dX5_help_23 (by decide) (fun c_5 => ?_) (fun c_5 => ?_)
      · have hf := pif hf c_5
        refine lv_aload_n hx hb dX5_help_28 rfl (lv_at hl 0 rfl) ?_
        refine va_get (D := (dC, dI)) (ci := 5) (v := .ref a_o_s) (C := RX5) (T := TX5) (N := 29) hx hb hts uX5_help_X5 hown hK hP 0 rfl rfl 21 (by decide) (hts _ mX5_help_1) (fun _ h9 => h9) rfl dX5_help_29 ?_
        refine lv_bipush (v := (26 : Int32)) hx hb dX5_help_32 (by decide) ?_
        refine lv_iload_n hx hb dX5_help_34 rfl (lv_at hl 1 rfl) ?_
        refine lv_iadd hx hb dX5_help_35 ?_
        obtain ⟨h_6, hf⟩ := pgd hf
        refine va_iald hx hb hK hP 1 1 rfl rfl h_6 dX5_help_36 ?_
        refine lv_bipush (v := (-9 : Int32)) hx hb dX5_help_37 (by decide) ?_
        refine lv_icmp_ne (tgt := 52) hx hb dX5_help_39 (by decide) (fun c_7 => ?_) (fun c_7 => ?_)
        · have hf := pif hf c_7
          refine lv_bipush (v := (-2 : Int32)) hx hb dX5_help_52 (by decide) ?_
          have q0 := Option.some.inj hf
          obtain ⟨e0, q1⟩ := Prod.mk.inj q0
          obtain ⟨e1, q2⟩ := Prod.mk.inj q1
          subst e0
          subst e1
          subst q2
          exact gRi hx hb hr hlocks hP hS dX5_help_54
        · have hf := pit hf c_7
          refine lv_aload_n hx hb dX5_help_42 rfl (lv_at hl 0 rfl) ?_
          refine lv_iload_n hx hb dX5_help_43 rfl (lv_at hl 2 rfl) ?_
          obtain ⟨r_8, hc, hf⟩ := pb1 hf
          refine gCi (va_runV (As := [.int i2]) (rest := []) hF (kX5_helperOf l dC dI Z cC cI cZ cW a_o a_o_text a_o_need a_o_made a_o_skillTold a_o_placeTold a_o_skips a_o_wheelTold a_o_tunes a_o_s a_o_spare a_o_kept a_o_isKept a_o_makes a_o_works a_o_order _ (0 : Int32) o_trace o_typed o_next o_token o_place o_value o_fault o_trades o_people o_draftTrades o_draftPeople o_isShut o_falling o_s i2 N r_8 hc) (cwV 1 hts gX5_help_X5_helperOf rfl rfl rfl (by decide +kernel) ⟨Nat.le_of_ble_eq_true rfl, Nat.le_of_ble_eq_true rfl⟩) (gPV (wc := [(a_o, .inr (5, [.int (0 : Int32), .long o_trace, .ref a_o_text, .int o_typed, .int o_next, .int o_token, .int o_place, .int o_value, .int o_fault, .ref a_o_need, .ref a_o_made, .ref a_o_skillTold, .ref a_o_placeTold, .ref a_o_skips, .ref a_o_wheelTold, .int o_trades, .int o_people, .int o_draftTrades, .int o_draftPeople, .int o_isShut, .ref a_o_tunes, .ref a_o_s, .ref a_o_spare, .ref a_o_kept, .ref a_o_isKept, .ref a_o_makes, .ref a_o_works, .ref a_o_order, .int o_falling])), (a_o_s, .inl (cI, 105, .inl o_s))]) hK hN hA hS hP hD [0, 1] rfl rfl (q0 := 0) (ci := 5) rfl rfl rfl) rfl rfl hl.1 rfl (lv_room (Nat.le_of_ble_eq_true rfl)) dX5_help_44 ⟨Nat.zero_le _, Nat.zero_le _⟩) hP hD hS hA [0, 1] rfl rfl rfl (fun H locs hP hD hS => ?_)
          have hP : va_P (dC, dI) vwCl [(a_o, .inr (5, [.int (0 : Int32), .long o_trace, .ref a_o_text, .int o_typed, .int o_next, .int o_token, .int o_place, .int o_value, .int o_fault, .ref a_o_need, .ref a_o_made, .ref a_o_skillTold, .ref a_o_placeTold, .ref a_o_skips, .ref a_o_wheelTold, .int o_trades, .int o_people, .int o_draftTrades, .int o_draftPeople, .int o_isShut, .ref a_o_tunes, .ref a_o_s, .ref a_o_spare, .ref a_o_kept, .ref a_o_isKept, .ref a_o_makes, .ref a_o_works, .ref a_o_order, .int o_falling])), (a_o_s, .inl (cI, 105, .inl o_s))] H := hP
          have hD : va_D A [(a_o, .inr (5, [.int (0 : Int32), .long o_trace, .ref a_o_text, .int o_typed, .int o_next, .int o_token, .int o_place, .int o_value, .int o_fault, .ref a_o_need, .ref a_o_made, .ref a_o_skillTold, .ref a_o_placeTold, .ref a_o_skips, .ref a_o_wheelTold, .int o_trades, .int o_people, .int o_draftTrades, .int o_draftPeople, .int o_isShut, .ref a_o_tunes, .ref a_o_s, .ref a_o_spare, .ref a_o_kept, .ref a_o_isKept, .ref a_o_makes, .ref a_o_works, .ref a_o_order, .int o_falling])), (a_o_s, .inl (cI, 105, .inl o_s))] := hD
          refine lv_bipush (v := (-9 : Int32)) hx hb dX5_help_47 (by decide) ?_
          refine lv_icmp_eq (tgt := 55) hx hb dX5_help_49 (by decide) (fun c_9 => ?_) (fun c_9 => ?_)
          · have hf := pit hf c_9
            refine lv_aload_n hx hb dX5_help_55 rfl (lv_at hl 0 rfl) ?_
            refine va_get (D := (dC, dI)) (ci := 5) (v := .ref a_o_s) (C := RX5) (T := TX5) (N := 29) hx hb hts uX5_help_X5 hown hK hP 0 rfl rfl 21 (by decide) (hts _ mX5_help_1) (fun _ h9 => h9) rfl dX5_help_56 ?_
            refine lv_bipush (v := (26 : Int32)) hx hb dX5_help_59 (by decide) ?_
            refine lv_iload_n hx hb dX5_help_61 rfl (lv_at hl 1 rfl) ?_
            refine lv_iadd hx hb dX5_help_62 ?_
            refine lv_iload_n hx hb dX5_help_63 rfl (lv_at hl 2 rfl) ?_
            obtain ⟨h_10, hf⟩ := pgd hf
            refine va_iast hx hb hK hP hD hS 1 1 rfl rfl h_10 dX5_help_64 (fun H locs hP hD hS => ?_)
            have hP : va_P (dC, dI) vwCl [(a_o, .inr (5, [.int (0 : Int32), .long o_trace, .ref a_o_text, .int o_typed, .int o_next, .int o_token, .int o_place, .int o_value, .int o_fault, .ref a_o_need, .ref a_o_made, .ref a_o_skillTold, .ref a_o_placeTold, .ref a_o_skips, .ref a_o_wheelTold, .int o_trades, .int o_people, .int o_draftTrades, .int o_draftPeople, .int o_isShut, .ref a_o_tunes, .ref a_o_s, .ref a_o_spare, .ref a_o_kept, .ref a_o_isKept, .ref a_o_makes, .ref a_o_works, .ref a_o_order, .int o_falling])), (a_o_s, .inl (cI, 105, .inl (upd o_s ((26 : Int32) + i1).toNatClampNeg i2)))] H := hP
            have hD : va_D A [(a_o, .inr (5, [.int (0 : Int32), .long o_trace, .ref a_o_text, .int o_typed, .int o_next, .int o_token, .int o_place, .int o_value, .int o_fault, .ref a_o_need, .ref a_o_made, .ref a_o_skillTold, .ref a_o_placeTold, .ref a_o_skips, .ref a_o_wheelTold, .int o_trades, .int o_people, .int o_draftTrades, .int o_draftPeople, .int o_isShut, .ref a_o_tunes, .ref a_o_s, .ref a_o_spare, .ref a_o_kept, .ref a_o_isKept, .ref a_o_makes, .ref a_o_works, .ref a_o_order, .int o_falling])), (a_o_s, .inl (cI, 105, .inl (upd o_s ((26 : Int32) + i1).toNatClampNeg i2)))] := hD
            refine lv_iconst (v := (1 : Int32)) hx hb dX5_help_65 (by decide) ?_
            have q0 := Option.some.inj hf
            obtain ⟨e0, q1⟩ := Prod.mk.inj q0
            obtain ⟨e1, q2⟩ := Prod.mk.inj q1
            subst e0
            subst e1
            subst q2
            exact gRi hx hb hr hlocks hP hS dX5_help_66
          · have hf := pif hf c_9
            refine lv_bipush (v := (-2 : Int32)) hx hb dX5_help_52 (by decide) ?_
            have q0 := Option.some.inj hf
            obtain ⟨e0, q1⟩ := Prod.mk.inj q0
            obtain ⟨e1, q2⟩ := Prod.mk.inj q1
            subst e0
            subst e1
            subst q2
            exact gRi hx hb hr hlocks hP hS dX5_help_54
      · have hf := pit hf c_5
        refine lv_iconst (v := (-1 : Int32)) hx hb dX5_help_26 (by decide) ?_
        have q0 := Option.some.inj hf
        obtain ⟨e0, q1⟩ := Prod.mk.inj q0
        obtain ⟨e1, q2⟩ := Prod.mk.inj q1
        subst e0
        subst e1
        subst q2
        exact gRi hx hb hr hlocks hP hS dX5_help_27
abbrev rmX5_ill : Room := { frames := 2, cells := 0, slots := 0, locals := 43 }
set_option maxRecDepth 20000 in
theorem uX5_ill_X5 : ∀ w ∈ wsX50, w ∈ wsX5_ill := by decide +kernel
set_option maxRecDepth 20000 in
theorem mX5_ill_0 : (Cond.fieldLink RX5 59 "TradeWheelModel" "thrown" "I" : Cond) ∈ wsX5_ill := by decide +kernel
set_option maxRecDepth 20000 in
theorem mX5_ill_1 : (Cond.fieldLink RX5 34 "TradeWheelModel" "s" "[I" : Cond) ∈ wsX5_ill := by decide +kernel
set_option maxHeartbeats 4000000 in
set_option maxRecDepth 100000 in
theorem kX5_ill (l : Launch) (dC : Nat → ClassId) (dI : Nat → Nat → Nat) (Z : gZ) (cC cI cZ cW : ClassId) (a_o a_o_text a_o_need a_o_made a_o_skillTold a_o_placeTold a_o_skips a_o_wheelTold a_o_tunes a_o_s a_o_spare a_o_kept a_o_isKept a_o_makes a_o_works a_o_order : Nat) (sz : Nat) (o_thrown : Int32) (o_trace : Int64) (o_typed : Int32) (o_next : Int32) (o_token : Int32) (o_place : Int32) (o_value : Int32) (o_fault : Int32) (o_trades : Int32) (o_people : Int32) (o_draftTrades : Int32) (o_draftPeople : Int32) (o_isShut : Int32) (o_falling : Int32) (o_s : Nat → Int32) (i1 : Int32) (N : Nat) (r' : Int32) (o_thrown' : Int32) (o_s' : Nat → Int32) (hf : fX5_ill N o_thrown o_people o_s  i1 = some (r', o_thrown', o_s')) : Met l yX5_ill wsX5_ill rmX5_ill (va_Pc [.ref a_o, .int i1] (gB (dC, dI) Z [(cC, .char), (cI, .int), (cZ, .boolean), (cW, .object RX3)] [(a_o, .inr (5, [.int o_thrown, .long o_trace, .ref a_o_text, .int o_typed, .int o_next, .int o_token, .int o_place, .int o_value, .int o_fault, .ref a_o_need, .ref a_o_made, .ref a_o_skillTold, .ref a_o_placeTold, .ref a_o_skips, .ref a_o_wheelTold, .int o_trades, .int o_people, .int o_draftTrades, .int o_draftPeople, .int o_isShut, .ref a_o_tunes, .ref a_o_s, .ref a_o_spare, .ref a_o_kept, .ref a_o_isKept, .ref a_o_makes, .ref a_o_works, .ref a_o_order, .int o_falling])), (a_o_s, .inl (cI, 105, .inl o_s))] sz)) (va_Qi (fun (r : Int32) (_ : Unit) => r = r') (gE (dC, dI) [(a_o, .inr (5, [.int o_thrown', .long o_trace, .ref a_o_text, .int o_typed, .int o_next, .int o_token, .int o_place, .int o_value, .int o_fault, .ref a_o_need, .ref a_o_made, .ref a_o_skillTold, .ref a_o_placeTold, .ref a_o_skips, .ref a_o_wheelTold, .int o_trades, .int o_people, .int o_draftTrades, .int o_draftPeople, .int o_isShut, .ref a_o_tunes, .ref a_o_s, .ref a_o_spare, .ref a_o_kept, .ref a_o_isKept, .ref a_o_makes, .ref a_o_works, .ref a_o_order, .int o_falling])), (a_o_s, .inl (cI, 105, .inl o_s'))]) (va_A [(a_o, .inr (5, [.int o_thrown, .long o_trace, .ref a_o_text, .int o_typed, .int o_next, .int o_token, .int o_place, .int o_value, .int o_fault, .ref a_o_need, .ref a_o_made, .ref a_o_skillTold, .ref a_o_placeTold, .ref a_o_skips, .ref a_o_wheelTold, .int o_trades, .int o_people, .int o_draftTrades, .int o_draftPeople, .int o_isShut, .ref a_o_tunes, .ref a_o_s, .ref a_o_spare, .ref a_o_kept, .ref a_o_isKept, .ref a_o_makes, .ref a_o_works, .ref a_o_order, .int o_falling])), (a_o_s, .inl (cI, 105, .inl o_s))] sz)) 0 0 (va_A [(a_o, .inr (5, [.int o_thrown, .long o_trace, .ref a_o_text, .int o_typed, .int o_next, .int o_token, .int o_place, .int o_value, .int o_fault, .ref a_o_need, .ref a_o_made, .ref a_o_skillTold, .ref a_o_placeTold, .ref a_o_skips, .ref a_o_wheelTold, .int o_trades, .int o_people, .int o_draftTrades, .int o_draftPeople, .int o_isShut, .ref a_o_tunes, .ref a_o_s, .ref a_o_spare, .ref a_o_kept, .ref a_o_isKept, .ref a_o_makes, .ref a_o_works, .ref a_o_order, .int o_falling])), (a_o_s, .inl (cI, 105, .inl o_s))] sz) := by
  refine gMet (cc := cX5_ill) (maxL := 3) (ret := (some .int)) (Qc := fun A => va_Qi (fun (r : Int32) (_ : Unit) => r = r') (gE (dC, dI) [(a_o, .inr (5, [.int o_thrown', .long o_trace, .ref a_o_text, .int o_typed, .int o_next, .int o_token, .int o_place, .int o_value, .int o_fault, .ref a_o_need, .ref a_o_made, .ref a_o_skillTold, .ref a_o_placeTold, .ref a_o_skips, .ref a_o_wheelTold, .int o_trades, .int o_people, .int o_draftTrades, .int o_draftPeople, .int o_isShut, .ref a_o_tunes, .ref a_o_s, .ref a_o_spare, .ref a_o_kept, .ref a_o_isKept, .ref a_o_makes, .ref a_o_works, .ref a_o_order, .int o_falling])), (a_o_s, .inl (cI, 105, .inl o_s'))]) A) (by decide) rfl (Nat.le_of_ble_eq_true rfl) ?_
  intro p e s m below meth c A ls hg0 _ hsz hP hD hS hl
  have hg0 : gX p s m _ meth c cX5_ill 3 (some .int) wsX5_ill RX5 (dC, dI) Z [(cC, .char), (cI, .int), (cZ, .boolean), (cW, .object RX3)] A := hg0
  obtain ⟨hx, hb, hr, hml, hown, hts, hlocks, hA, hK, hN⟩ := id hg0
  subst hsz
  have hF : CallFix p m c cX5_ill 3 s _ wsX5_ill RX5 := ⟨hx, hb, hml, hown, hts⟩
  have hl : lv_has ls 3 [(0, .ref a_o), (1, .int i1)] := hl
  unfold fX5_ill at hf
  refine lv_aload_n hx hb dX5_ill_0 rfl (lv_at hl 0 rfl) ?_
  refine lv_iconst (v := (0 : Int32)) hx hb dX5_ill_1 (by decide) ?_
  refine va_put (D := (dC, dI)) (ci := 5) (v := .int (0 : Int32)) (ty := .int) (C := RX5) (T := TX5) (N := 29) hx hb hts uX5_ill_X5 tyX5 tyX5_ok nmX5 hown hK hP hD hS 0 rfl rfl 0 (by decide) (hts _ mX5_ill_0) (fun _ h9 => h9) rfl (by decide +kernel) rfl rfl (Nat.le_of_ble_eq_true rfl) dX5_ill_2 (fun H locs hP hD hS => ?_)
  have hP : va_P (dC, dI) vwCl [(a_o, .inr (5, [.int (0 : Int32), .long o_trace, .ref a_o_text, .int o_typed, .int o_next, .int o_token, .int o_place, .int o_value, .int o_fault, .ref a_o_need, .ref a_o_made, .ref a_o_skillTold, .ref a_o_placeTold, .ref a_o_skips, .ref a_o_wheelTold, .int o_trades, .int o_people, .int o_draftTrades, .int o_draftPeople, .int o_isShut, .ref a_o_tunes, .ref a_o_s, .ref a_o_spare, .ref a_o_kept, .ref a_o_isKept, .ref a_o_makes, .ref a_o_works, .ref a_o_order, .int o_falling])), (a_o_s, .inl (cI, 105, .inl o_s))] H := hP
  have hD : va_D A [(a_o, .inr (5, [.int (0 : Int32), .long o_trace, .ref a_o_text, .int o_typed, .int o_next, .int o_token, .int o_place, .int o_value, .int o_fault, .ref a_o_need, .ref a_o_made, .ref a_o_skillTold, .ref a_o_placeTold, .ref a_o_skips, .ref a_o_wheelTold, .int o_trades, .int o_people, .int o_draftTrades, .int o_draftPeople, .int o_isShut, .ref a_o_tunes, .ref a_o_s, .ref a_o_spare, .ref a_o_kept, .ref a_o_isKept, .ref a_o_makes, .ref a_o_works, .ref a_o_order, .int o_falling])), (a_o_s, .inl (cI, 105, .inl o_s))] := hD
  refine lv_aload_n hx hb dX5_ill_5 rfl (lv_at hl 0 rfl) ?_
  refine lv_iload_n hx hb dX5_ill_6 rfl (lv_at hl 1 rfl) ?_
  obtain ⟨r_1, hc, hf⟩ := pb1 hf
  refine gCi (va_runV (As := [.int i1]) (rest := []) hF (kX5_isPerson l dC dI Z cC cI cZ cW a_o a_o_text a_o_need a_o_made a_o_skillTold a_o_placeTold a_o_skips a_o_wheelTold a_o_tunes a_o_s a_o_spare a_o_kept a_o_isKept a_o_makes a_o_works a_o_order _ (0 : Int32) o_trace o_typed o_next o_token o_place o_value o_fault o_trades o_people o_draftTrades o_draftPeople o_isShut o_falling i1 N r_1 hc) (cwV 1 hts gX5_ill_X5_isPerson rfl rfl rfl (by decide +kernel) ⟨Nat.le_of_ble_eq_true rfl, Nat.le_of_ble_eq_true rfl⟩) (gPV (wc := [(a_o, .inr (5, [.int (0 : Int32), .long o_trace, .ref a_o_text, .int o_typed, .int o_next, .int o_token, .int o_place, .int o_value, .int o_fault, .ref a_o_need, .ref a_o_made, .ref a_o_skillTold, .ref a_o_placeTold, .ref a_o_skips, .ref a_o_wheelTold, .int o_trades, .int o_people, .int o_draftTrades, .int o_draftPeople, .int o_isShut, .ref a_o_tunes, .ref a_o_s, .ref a_o_spare, .ref a_o_kept, .ref a_o_isKept, .ref a_o_makes, .ref a_o_works, .ref a_o_order, .int o_falling]))]) hK hN hA hS hP hD [0] rfl rfl (q0 := 0) (ci := 5) rfl rfl rfl) rfl rfl hl.1 rfl (lv_room (Nat.le_of_ble_eq_true rfl)) dX5_ill_7 ⟨Nat.zero_le _, Nat.zero_le _⟩) hP hD hS hA [0] rfl rfl rfl (fun H locs hP hD hS => ?_)
  have hP : va_P (dC, dI) vwCl [(a_o, .inr (5, [.int (0 : Int32), .long o_trace, .ref a_o_text, .int o_typed, .int o_next, .int o_token, .int o_place, .int o_value, .int o_fault, .ref a_o_need, .ref a_o_made, .ref a_o_skillTold, .ref a_o_placeTold, .ref a_o_skips, .ref a_o_wheelTold, .int o_trades, .int o_people, .int o_draftTrades, .int o_draftPeople, .int o_isShut, .ref a_o_tunes, .ref a_o_s, .ref a_o_spare, .ref a_o_kept, .ref a_o_isKept, .ref a_o_makes, .ref a_o_works, .ref a_o_order, .int o_falling])), (a_o_s, .inl (cI, 105, .inl o_s))] H := hP
  have hD : va_D A [(a_o, .inr (5, [.int (0 : Int32), .long o_trace, .ref a_o_text, .int o_typed, .int o_next, .int o_token, .int o_place, .int o_value, .int o_fault, .ref a_o_need, .ref a_o_made, .ref a_o_skillTold, .ref a_o_placeTold, .ref a_o_skips, .ref a_o_wheelTold, .int o_trades, .int o_people, .int o_draftTrades, .int o_draftPeople, .int o_isShut, .ref a_o_tunes, .ref a_o_s, .ref a_o_spare, .ref a_o_kept, .ref a_o_isKept, .ref a_o_makes, .ref a_o_works, .ref a_o_order, .int o_falling])), (a_o_s, .inl (cI, 105, .inl o_s))] := hD
  refine lv_if_ne (tgt := 15) hx hb dX5_ill_10 (by decide) (fun c_2 => ?_) (fun c_2 => ?_)
  · have hf := pif hf c_2
    refine lv_aload_n hx hb dX5_ill_15 rfl (lv_at hl 0 rfl) ?_
    refine lv_iload_n hx hb dX5_ill_16 rfl (lv_at hl 1 rfl) ?_
    obtain ⟨r_3, hc, hf⟩ := pb1 hf
    refine gCi (va_runV (As := [.int i1]) (rest := []) hF (kX5_isIll l dC dI Z cC cI cZ cW a_o a_o_text a_o_need a_o_made a_o_skillTold a_o_placeTold a_o_skips a_o_wheelTold a_o_tunes a_o_s a_o_spare a_o_kept a_o_isKept a_o_makes a_o_works a_o_order _ (0 : Int32) o_trace o_typed o_next o_token o_place o_value o_fault o_trades o_people o_draftTrades o_draftPeople o_isShut o_falling o_s i1 N r_3 hc) (cwV 1 hts gX5_ill_X5_isIll rfl rfl rfl (by decide +kernel) ⟨Nat.le_of_ble_eq_true rfl, Nat.le_of_ble_eq_true rfl⟩) (gPV (wc := [(a_o, .inr (5, [.int (0 : Int32), .long o_trace, .ref a_o_text, .int o_typed, .int o_next, .int o_token, .int o_place, .int o_value, .int o_fault, .ref a_o_need, .ref a_o_made, .ref a_o_skillTold, .ref a_o_placeTold, .ref a_o_skips, .ref a_o_wheelTold, .int o_trades, .int o_people, .int o_draftTrades, .int o_draftPeople, .int o_isShut, .ref a_o_tunes, .ref a_o_s, .ref a_o_spare, .ref a_o_kept, .ref a_o_isKept, .ref a_o_makes, .ref a_o_works, .ref a_o_order, .int o_falling])), (a_o_s, .inl (cI, 105, .inl o_s))]) hK hN hA hS hP hD [0, 1] rfl rfl (q0 := 0) (ci := 5) rfl rfl rfl) rfl rfl hl.1 rfl (lv_room (Nat.le_of_ble_eq_true rfl)) dX5_ill_17 ⟨Nat.zero_le _, Nat.zero_le _⟩) hP hD hS hA [0, 1] rfl rfl rfl (fun H locs hP hD hS => ?_)
    have hP : va_P (dC, dI) vwCl [(a_o, .inr (5, [.int (0 : Int32), .long o_trace, .ref a_o_text, .int o_typed, .int o_next, .int o_token, .int o_place, .int o_value, .int o_fault, .ref a_o_need, .ref a_o_made, .ref a_o_skillTold, .ref a_o_placeTold, .ref a_o_skips, .ref a_o_wheelTold, .int o_trades, .int o_people, .int o_draftTrades, .int o_draftPeople, .int o_isShut, .ref a_o_tunes, .ref a_o_s, .ref a_o_spare, .ref a_o_kept, .ref a_o_isKept, .ref a_o_makes, .ref a_o_works, .ref a_o_order, .int o_falling])), (a_o_s, .inl (cI, 105, .inl o_s))] H := hP
    have hD : va_D A [(a_o, .inr (5, [.int (0 : Int32), .long o_trace, .ref a_o_text, .int o_typed, .int o_next, .int o_token, .int o_place, .int o_value, .int o_fault, .ref a_o_need, .ref a_o_made, .ref a_o_skillTold, .ref a_o_placeTold, .ref a_o_skips, .ref a_o_wheelTold, .int o_trades, .int o_people, .int o_draftTrades, .int o_draftPeople, .int o_isShut, .ref a_o_tunes, .ref a_o_s, .ref a_o_spare, .ref a_o_kept, .ref a_o_isKept, .ref a_o_makes, .ref a_o_works, .ref a_o_order, .int o_falling])), (a_o_s, .inl (cI, 105, .inl o_s))] := hD
    refine lv_if_eq (tgt := 27) hx hb dX5_ill_20 (by decide) (fun c_4 => ?_) (fun c_4 => ?_)
    · have hf := pit hf c_4
      refine lv_iconst (v := (1 : Int32)) hx hb dX5_ill_27 (by decide) ?_
      refine lv_istore_n (lv' := [(2, .int (1 : Int32)), (0, .ref a_o), (1, .int i1)]) hx hb dX5_ill_28 rfl hl (by decide) rfl (fun ls hl => ?_)
      refine lv_aload_n hx hb dX5_ill_29 rfl (lv_at hl 1 rfl) ?_
      refine va_get (D := (dC, dI)) (ci := 5) (v := .ref a_o_s) (C := RX5) (T := TX5) (N := 29) hx hb hts uX5_ill_X5 hown hK hP 0 rfl rfl 21 (by decide) (hts _ mX5_ill_1) (fun _ h9 => h9) rfl dX5_ill_30 ?_
      refine lv_bipush (v := (32 : Int32)) hx hb dX5_ill_33 (by decide) ?_
      refine lv_dup2_11 hx hb dX5_ill_35 rfl rfl ?_
      obtain ⟨h_5, hf⟩ := pgd hf
      refine va_iald hx hb hK hP 1 1 rfl rfl h_5 dX5_ill_36 ?_
      refine lv_iconst (v := (1 : Int32)) hx hb dX5_ill_37 (by decide) ?_
      refine lv_iload_n hx hb dX5_ill_38 rfl (lv_at hl 2 rfl) ?_
      refine lv_ishl hx hb dX5_ill_39 ?_
      refine lv_ior hx hb dX5_ill_40 ?_
      obtain ⟨h_6, hf⟩ := pgd hf
      refine va_iast hx hb hK hP hD hS 1 1 rfl rfl h_6 dX5_ill_41 (fun H locs hP hD hS => ?_)
      have hP : va_P (dC, dI) vwCl [(a_o, .inr (5, [.int (0 : Int32), .long o_trace, .ref a_o_text, .int o_typed, .int o_next, .int o_token, .int o_place, .int o_value, .int o_fault, .ref a_o_need, .ref a_o_made, .ref a_o_skillTold, .ref a_o_placeTold, .ref a_o_skips, .ref a_o_wheelTold, .int o_trades, .int o_people, .int o_draftTrades, .int o_draftPeople, .int o_isShut, .ref a_o_tunes, .ref a_o_s, .ref a_o_spare, .ref a_o_kept, .ref a_o_isKept, .ref a_o_makes, .ref a_o_works, .ref a_o_order, .int o_falling])), (a_o_s, .inl (cI, 105, .inl (upd o_s (32 : Int32).toNatClampNeg ((o_s (32 : Int32).toNatClampNeg) ||| ((1 : Int32) <<< (i1 &&& 31))))))] H := hP
      have hD : va_D A [(a_o, .inr (5, [.int (0 : Int32), .long o_trace, .ref a_o_text, .int o_typed, .int o_next, .int o_token, .int o_place, .int o_value, .int o_fault, .ref a_o_need, .ref a_o_made, .ref a_o_skillTold, .ref a_o_placeTold, .ref a_o_skips, .ref a_o_wheelTold, .int o_trades, .int o_people, .int o_draftTrades, .int o_draftPeople, .int o_isShut, .ref a_o_tunes, .ref a_o_s, .ref a_o_spare, .ref a_o_kept, .ref a_o_isKept, .ref a_o_makes, .ref a_o_works, .ref a_o_order, .int o_falling])), (a_o_s, .inl (cI, 105, .inl (upd o_s (32 : Int32).toNatClampNeg ((o_s (32 : Int32).toNatClampNeg) ||| ((1 : Int32) <<< (i1 &&& 31))))))] := hD
      refine lv_iload_n hx hb dX5_ill_42 rfl (lv_at hl 0 rfl) ?_
      have q0 := Option.some.inj hf
      obtain ⟨e0, q1⟩ := Prod.mk.inj q0
      obtain ⟨e1, q2⟩ := Prod.mk.inj q1
      subst e0
      subst e1
      subst q2
      exact gRi hx hb hr hlocks hP hS dX5_ill_43
    · have hf := pif hf c_4
      refine lv_iconst (v := (0 : Int32)) hx hb dX5_ill_23 (by decide) ?_
      refine lv_goto (tgt := 28) hx hb dX5_ill_24 (by decide) ?_
      refine lv_istore_n (lv' := [(2, .int (0 : Int32)), (0, .ref a_o), (1, .int i1)]) hx hb dX5_ill_28 rfl hl (by decide) rfl (fun ls hl => ?_)
      refine lv_aload_n hx hb dX5_ill_29 rfl (lv_at hl 1 rfl) ?_
      refine va_get (D := (dC, dI)) (ci := 5) (v := .ref a_o_s) (C := RX5) (T := TX5) (N := 29) hx hb hts uX5_ill_X5 hown hK hP 0 rfl rfl 21 (by decide) (hts _ mX5_ill_1) (fun _ h9 => h9) rfl dX5_ill_30 ?_
      refine lv_bipush (v := (32 : Int32)) hx hb dX5_ill_33 (by decide) ?_
      refine lv_dup2_11 hx hb dX5_ill_35 rfl rfl ?_
      obtain ⟨h_7, hf⟩ := pgd hf
      refine va_iald hx hb hK hP 1 1 rfl rfl h_7 dX5_ill_36 ?_
      refine lv_iconst (v := (1 : Int32)) hx hb dX5_ill_37 (by decide) ?_
      refine lv_iload_n hx hb dX5_ill_38 rfl (lv_at hl 2 rfl) ?_
      refine lv_ishl hx hb dX5_ill_39 ?_
      refine lv_ior hx hb dX5_ill_40 ?_
      obtain ⟨h_8, hf⟩ := pgd hf
      refine va_iast hx hb hK hP hD hS 1 1 rfl rfl h_8 dX5_ill_41 (fun H locs hP hD hS => ?_)
      have hP : va_P (dC, dI) vwCl [(a_o, .inr (5, [.int (0 : Int32), .long o_trace, .ref a_o_text, .int o_typed, .int o_next, .int o_token, .int o_place, .int o_value, .int o_fault, .ref a_o_need, .ref a_o_made, .ref a_o_skillTold, .ref a_o_placeTold, .ref a_o_skips, .ref a_o_wheelTold, .int o_trades, .int o_people, .int o_draftTrades, .int o_draftPeople, .int o_isShut, .ref a_o_tunes, .ref a_o_s, .ref a_o_spare, .ref a_o_kept, .ref a_o_isKept, .ref a_o_makes, .ref a_o_works, .ref a_o_order, .int o_falling])), (a_o_s, .inl (cI, 105, .inl (upd o_s (32 : Int32).toNatClampNeg ((o_s (32 : Int32).toNatClampNeg) ||| ((1 : Int32) <<< (i1 &&& 31))))))] H := hP
      have hD : va_D A [(a_o, .inr (5, [.int (0 : Int32), .long o_trace, .ref a_o_text, .int o_typed, .int o_next, .int o_token, .int o_place, .int o_value, .int o_fault, .ref a_o_need, .ref a_o_made, .ref a_o_skillTold, .ref a_o_placeTold, .ref a_o_skips, .ref a_o_wheelTold, .int o_trades, .int o_people, .int o_draftTrades, .int o_draftPeople, .int o_isShut, .ref a_o_tunes, .ref a_o_s, .ref a_o_spare, .ref a_o_kept, .ref a_o_isKept, .ref a_o_makes, .ref a_o_works, .ref a_o_order, .int o_falling])), (a_o_s, .inl (cI, 105, .inl (upd o_s (32 : Int32).toNatClampNeg ((o_s (32 : Int32).toNatClampNeg) ||| ((1 : Int32) <<< (i1 &&& 31))))))] := hD
      refine lv_iload_n hx hb dX5_ill_42 rfl (lv_at hl 0 rfl) ?_
      have q0 := Option.some.inj hf
      obtain ⟨e0, q1⟩ := Prod.mk.inj q0
      obtain ⟨e1, q2⟩ := Prod.mk.inj q1
      subst e0
      subst e1
      subst q2
      exact gRi hx hb hr hlocks hP hS dX5_ill_43
  · have hf := pit hf c_2
    refine lv_iconst (v := (-1 : Int32)) hx hb dX5_ill_13 (by decide) ?_
    have q0 := Option.some.inj hf
    obtain ⟨e0, q1⟩ := Prod.mk.inj q0
    obtain ⟨e1, q2⟩ := Prod.mk.inj q1
    subst e0
    subst e1
    subst q2
    exact gRi hx hb hr hlocks hP hS dX5_ill_14
abbrev rmX5_oil : Room := { frames := 2, cells := 0, slots := 0, locals := 43 }
set_option maxRecDepth 20000 in
theorem uX5_oil_X5 : ∀ w ∈ wsX50, w ∈ wsX5_oil := by decide +kernel
set_option maxRecDepth 20000 in
theorem mX5_oil_0 : (Cond.fieldLink RX5 59 "TradeWheelModel" "thrown" "I" : Cond) ∈ wsX5_oil := by decide +kernel
set_option maxRecDepth 20000 in
theorem mX5_oil_1 : (Cond.fieldLink RX5 137 "TradeWheelModel" "trades" "I" : Cond) ∈ wsX5_oil := by decide +kernel
set_option maxRecDepth 20000 in
theorem mX5_oil_2 : (Cond.fieldLink RX5 34 "TradeWheelModel" "s" "[I" : Cond) ∈ wsX5_oil := by decide +kernel
set_option maxHeartbeats 4000000 in
set_option maxRecDepth 100000 in
theorem kX5_oil (l : Launch) (dC : Nat → ClassId) (dI : Nat → Nat → Nat) (Z : gZ) (cC cI cZ cW : ClassId) (a_o a_o_text a_o_need a_o_made a_o_skillTold a_o_placeTold a_o_skips a_o_wheelTold a_o_tunes a_o_s a_o_spare a_o_kept a_o_isKept a_o_makes a_o_works a_o_order : Nat) (sz : Nat) (o_thrown : Int32) (o_trace : Int64) (o_typed : Int32) (o_next : Int32) (o_token : Int32) (o_place : Int32) (o_value : Int32) (o_fault : Int32) (o_trades : Int32) (o_people : Int32) (o_draftTrades : Int32) (o_draftPeople : Int32) (o_isShut : Int32) (o_falling : Int32) (o_s : Nat → Int32) (i1 : Int32) (N : Nat) (r' : Int32) (o_thrown' : Int32) (o_s' : Nat → Int32) (hf : fX5_oil N o_thrown o_trades o_s  i1 = some (r', o_thrown', o_s')) : Met l yX5_oil wsX5_oil rmX5_oil (va_Pc [.ref a_o, .int i1] (gB (dC, dI) Z [(cC, .char), (cI, .int), (cZ, .boolean), (cW, .object RX3)] [(a_o, .inr (5, [.int o_thrown, .long o_trace, .ref a_o_text, .int o_typed, .int o_next, .int o_token, .int o_place, .int o_value, .int o_fault, .ref a_o_need, .ref a_o_made, .ref a_o_skillTold, .ref a_o_placeTold, .ref a_o_skips, .ref a_o_wheelTold, .int o_trades, .int o_people, .int o_draftTrades, .int o_draftPeople, .int o_isShut, .ref a_o_tunes, .ref a_o_s, .ref a_o_spare, .ref a_o_kept, .ref a_o_isKept, .ref a_o_makes, .ref a_o_works, .ref a_o_order, .int o_falling])), (a_o_s, .inl (cI, 105, .inl o_s))] sz)) (va_Qi (fun (r : Int32) (_ : Unit) => r = r') (gE (dC, dI) [(a_o, .inr (5, [.int o_thrown', .long o_trace, .ref a_o_text, .int o_typed, .int o_next, .int o_token, .int o_place, .int o_value, .int o_fault, .ref a_o_need, .ref a_o_made, .ref a_o_skillTold, .ref a_o_placeTold, .ref a_o_skips, .ref a_o_wheelTold, .int o_trades, .int o_people, .int o_draftTrades, .int o_draftPeople, .int o_isShut, .ref a_o_tunes, .ref a_o_s, .ref a_o_spare, .ref a_o_kept, .ref a_o_isKept, .ref a_o_makes, .ref a_o_works, .ref a_o_order, .int o_falling])), (a_o_s, .inl (cI, 105, .inl o_s'))]) (va_A [(a_o, .inr (5, [.int o_thrown, .long o_trace, .ref a_o_text, .int o_typed, .int o_next, .int o_token, .int o_place, .int o_value, .int o_fault, .ref a_o_need, .ref a_o_made, .ref a_o_skillTold, .ref a_o_placeTold, .ref a_o_skips, .ref a_o_wheelTold, .int o_trades, .int o_people, .int o_draftTrades, .int o_draftPeople, .int o_isShut, .ref a_o_tunes, .ref a_o_s, .ref a_o_spare, .ref a_o_kept, .ref a_o_isKept, .ref a_o_makes, .ref a_o_works, .ref a_o_order, .int o_falling])), (a_o_s, .inl (cI, 105, .inl o_s))] sz)) 0 0 (va_A [(a_o, .inr (5, [.int o_thrown, .long o_trace, .ref a_o_text, .int o_typed, .int o_next, .int o_token, .int o_place, .int o_value, .int o_fault, .ref a_o_need, .ref a_o_made, .ref a_o_skillTold, .ref a_o_placeTold, .ref a_o_skips, .ref a_o_wheelTold, .int o_trades, .int o_people, .int o_draftTrades, .int o_draftPeople, .int o_isShut, .ref a_o_tunes, .ref a_o_s, .ref a_o_spare, .ref a_o_kept, .ref a_o_isKept, .ref a_o_makes, .ref a_o_works, .ref a_o_order, .int o_falling])), (a_o_s, .inl (cI, 105, .inl o_s))] sz) := by
  refine gMet (cc := cX5_oil) (maxL := 4) (ret := (some .int)) (Qc := fun A => va_Qi (fun (r : Int32) (_ : Unit) => r = r') (gE (dC, dI) [(a_o, .inr (5, [.int o_thrown', .long o_trace, .ref a_o_text, .int o_typed, .int o_next, .int o_token, .int o_place, .int o_value, .int o_fault, .ref a_o_need, .ref a_o_made, .ref a_o_skillTold, .ref a_o_placeTold, .ref a_o_skips, .ref a_o_wheelTold, .int o_trades, .int o_people, .int o_draftTrades, .int o_draftPeople, .int o_isShut, .ref a_o_tunes, .ref a_o_s, .ref a_o_spare, .ref a_o_kept, .ref a_o_isKept, .ref a_o_makes, .ref a_o_works, .ref a_o_order, .int o_falling])), (a_o_s, .inl (cI, 105, .inl o_s'))]) A) (by decide) rfl (Nat.le_of_ble_eq_true rfl) ?_
  intro p e s m below meth c A ls hg0 _ hsz hP hD hS hl
  have hg0 : gX p s m _ meth c cX5_oil 4 (some .int) wsX5_oil RX5 (dC, dI) Z [(cC, .char), (cI, .int), (cZ, .boolean), (cW, .object RX3)] A := hg0
  obtain ⟨hx, hb, hr, hml, hown, hts, hlocks, hA, hK, hN⟩ := id hg0
  subst hsz
  have hF : CallFix p m c cX5_oil 4 s _ wsX5_oil RX5 := ⟨hx, hb, hml, hown, hts⟩
  have hl : lv_has ls 4 [(0, .ref a_o), (1, .int i1)] := hl
  unfold fX5_oil at hf
  refine lv_aload_n hx hb dX5_oil_0 rfl (lv_at hl 0 rfl) ?_
  refine lv_iconst (v := (0 : Int32)) hx hb dX5_oil_1 (by decide) ?_
  refine va_put (D := (dC, dI)) (ci := 5) (v := .int (0 : Int32)) (ty := .int) (C := RX5) (T := TX5) (N := 29) hx hb hts uX5_oil_X5 tyX5 tyX5_ok nmX5 hown hK hP hD hS 0 rfl rfl 0 (by decide) (hts _ mX5_oil_0) (fun _ h9 => h9) rfl (by decide +kernel) rfl rfl (Nat.le_of_ble_eq_true rfl) dX5_oil_2 (fun H locs hP hD hS => ?_)
  have hP : va_P (dC, dI) vwCl [(a_o, .inr (5, [.int (0 : Int32), .long o_trace, .ref a_o_text, .int o_typed, .int o_next, .int o_token, .int o_place, .int o_value, .int o_fault, .ref a_o_need, .ref a_o_made, .ref a_o_skillTold, .ref a_o_placeTold, .ref a_o_skips, .ref a_o_wheelTold, .int o_trades, .int o_people, .int o_draftTrades, .int o_draftPeople, .int o_isShut, .ref a_o_tunes, .ref a_o_s, .ref a_o_spare, .ref a_o_kept, .ref a_o_isKept, .ref a_o_makes, .ref a_o_works, .ref a_o_order, .int o_falling])), (a_o_s, .inl (cI, 105, .inl o_s))] H := hP
  have hD : va_D A [(a_o, .inr (5, [.int (0 : Int32), .long o_trace, .ref a_o_text, .int o_typed, .int o_next, .int o_token, .int o_place, .int o_value, .int o_fault, .ref a_o_need, .ref a_o_made, .ref a_o_skillTold, .ref a_o_placeTold, .ref a_o_skips, .ref a_o_wheelTold, .int o_trades, .int o_people, .int o_draftTrades, .int o_draftPeople, .int o_isShut, .ref a_o_tunes, .ref a_o_s, .ref a_o_spare, .ref a_o_kept, .ref a_o_isKept, .ref a_o_makes, .ref a_o_works, .ref a_o_order, .int o_falling])), (a_o_s, .inl (cI, 105, .inl o_s))] := hD
  refine lv_aload_n hx hb dX5_oil_5 rfl (lv_at hl 0 rfl) ?_
  refine lv_iload_n hx hb dX5_oil_6 rfl (lv_at hl 1 rfl) ?_
  obtain ⟨r_1, hc, hf⟩ := pb1 hf
  refine gCi (va_runV (As := [.int i1]) (rest := []) hF (kX5_isTrade l dC dI Z cC cI cZ cW a_o a_o_text a_o_need a_o_made a_o_skillTold a_o_placeTold a_o_skips a_o_wheelTold a_o_tunes a_o_s a_o_spare a_o_kept a_o_isKept a_o_makes a_o_works a_o_order _ (0 : Int32) o_trace o_typed o_next o_token o_place o_value o_fault o_trades o_people o_draftTrades o_draftPeople o_isShut o_falling i1 N r_1 hc) (cwV 1 hts gX5_oil_X5_isTrade rfl rfl rfl (by decide +kernel) ⟨Nat.le_of_ble_eq_true rfl, Nat.le_of_ble_eq_true rfl⟩) (gPV (wc := [(a_o, .inr (5, [.int (0 : Int32), .long o_trace, .ref a_o_text, .int o_typed, .int o_next, .int o_token, .int o_place, .int o_value, .int o_fault, .ref a_o_need, .ref a_o_made, .ref a_o_skillTold, .ref a_o_placeTold, .ref a_o_skips, .ref a_o_wheelTold, .int o_trades, .int o_people, .int o_draftTrades, .int o_draftPeople, .int o_isShut, .ref a_o_tunes, .ref a_o_s, .ref a_o_spare, .ref a_o_kept, .ref a_o_isKept, .ref a_o_makes, .ref a_o_works, .ref a_o_order, .int o_falling]))]) hK hN hA hS hP hD [0] rfl rfl (q0 := 0) (ci := 5) rfl rfl rfl) rfl rfl hl.1 rfl (lv_room (Nat.le_of_ble_eq_true rfl)) dX5_oil_7 ⟨Nat.zero_le _, Nat.zero_le _⟩) hP hD hS hA [0] rfl rfl rfl (fun H locs hP hD hS => ?_)
  have hP : va_P (dC, dI) vwCl [(a_o, .inr (5, [.int (0 : Int32), .long o_trace, .ref a_o_text, .int o_typed, .int o_next, .int o_token, .int o_place, .int o_value, .int o_fault, .ref a_o_need, .ref a_o_made, .ref a_o_skillTold, .ref a_o_placeTold, .ref a_o_skips, .ref a_o_wheelTold, .int o_trades, .int o_people, .int o_draftTrades, .int o_draftPeople, .int o_isShut, .ref a_o_tunes, .ref a_o_s, .ref a_o_spare, .ref a_o_kept, .ref a_o_isKept, .ref a_o_makes, .ref a_o_works, .ref a_o_order, .int o_falling])), (a_o_s, .inl (cI, 105, .inl o_s))] H := hP
  have hD : va_D A [(a_o, .inr (5, [.int (0 : Int32), .long o_trace, .ref a_o_text, .int o_typed, .int o_next, .int o_token, .int o_place, .int o_value, .int o_fault, .ref a_o_need, .ref a_o_made, .ref a_o_skillTold, .ref a_o_placeTold, .ref a_o_skips, .ref a_o_wheelTold, .int o_trades, .int o_people, .int o_draftTrades, .int o_draftPeople, .int o_isShut, .ref a_o_tunes, .ref a_o_s, .ref a_o_spare, .ref a_o_kept, .ref a_o_isKept, .ref a_o_makes, .ref a_o_works, .ref a_o_order, .int o_falling])), (a_o_s, .inl (cI, 105, .inl o_s))] := hD
  refine lv_if_ne (tgt := 15) hx hb dX5_oil_10 (by decide) (fun c_2 => ?_) (fun c_2 => ?_)
  · have hf := pif hf c_2
    refine lv_aload_n hx hb dX5_oil_15 rfl (lv_at hl 0 rfl) ?_
    refine va_get (D := (dC, dI)) (ci := 5) (v := .int o_trades) (C := RX5) (T := TX5) (N := 29) hx hb hts uX5_oil_X5 hown hK hP 0 rfl rfl 15 (by decide) (hts _ mX5_oil_1) (fun _ h9 => h9) rfl dX5_oil_16 ?_
    refine lv_iconst (v := (1 : Int32)) hx hb dX5_oil_19 (by decide) ?_
    refine lv_icmp_ne (tgt := 26) hx hb dX5_oil_20 (by decide) (fun c_3 => ?_) (fun c_3 => ?_)
    · have hf := pif hf c_3
      refine lv_iload_n hx hb dX5_oil_26 rfl (lv_at hl 1 rfl) ?_
      refine lv_iconst (v := (1 : Int32)) hx hb dX5_oil_27 (by decide) ?_
      refine lv_iadd hx hb dX5_oil_28 ?_
      refine lv_aload_n hx hb dX5_oil_29 rfl (lv_at hl 0 rfl) ?_
      refine va_get (D := (dC, dI)) (ci := 5) (v := .int o_trades) (C := RX5) (T := TX5) (N := 29) hx hb hts uX5_oil_X5 hown hK hP 0 rfl rfl 15 (by decide) (hts _ mX5_oil_1) (fun _ h9 => h9) rfl dX5_oil_30 ?_
      obtain ⟨hz_4, hf⟩ := pgz hf
      refine lv_irem hx hb dX5_oil_33 hz_4 ?_
      refine lv_istore_n (lv' := [(2, .int ((i1 + (1 : Int32)) - (i1 + (1 : Int32)) / o_trades * o_trades)), (0, .ref a_o), (1, .int i1)]) hx hb dX5_oil_34 rfl hl (by decide) rfl (fun ls hl => ?_)
      refine lv_aload_n hx hb dX5_oil_35 rfl (lv_at hl 1 rfl) ?_
      refine va_get (D := (dC, dI)) (ci := 5) (v := .ref a_o_s) (C := RX5) (T := TX5) (N := 29) hx hb hts uX5_oil_X5 hown hK hP 0 rfl rfl 21 (by decide) (hts _ mX5_oil_2) (fun _ h9 => h9) rfl dX5_oil_36 ?_
      refine lv_bipush (v := (14 : Int32)) hx hb dX5_oil_39 (by decide) ?_
      refine lv_iload_n hx hb dX5_oil_41 rfl (lv_at hl 2 rfl) ?_
      refine lv_iadd hx hb dX5_oil_42 ?_
      obtain ⟨h_5, hf⟩ := pgd hf
      refine va_iald hx hb hK hP 1 1 rfl rfl h_5 dX5_oil_43 ?_
      refine lv_istore_n (lv' := [(3, .int (o_s ((14 : Int32) + i1).toNatClampNeg)), (2, .int ((i1 + (1 : Int32)) - (i1 + (1 : Int32)) / o_trades * o_trades)), (0, .ref a_o), (1, .int i1)]) hx hb dX5_oil_44 rfl hl (by decide) rfl (fun ls hl => ?_)
      refine lv_aload_n hx hb dX5_oil_45 rfl (lv_at hl 2 rfl) ?_
      refine va_get (D := (dC, dI)) (ci := 5) (v := .ref a_o_s) (C := RX5) (T := TX5) (N := 29) hx hb hts uX5_oil_X5 hown hK hP 0 rfl rfl 21 (by decide) (hts _ mX5_oil_2) (fun _ h9 => h9) rfl dX5_oil_46 ?_
      refine lv_bipush (v := (14 : Int32)) hx hb dX5_oil_49 (by decide) ?_
      refine lv_iload_n hx hb dX5_oil_51 rfl (lv_at hl 3 rfl) ?_
      refine lv_iadd hx hb dX5_oil_52 ?_
      refine lv_aload_n hx hb dX5_oil_53 rfl (lv_at hl 2 rfl) ?_
      refine va_get (D := (dC, dI)) (ci := 5) (v := .ref a_o_s) (C := RX5) (T := TX5) (N := 29) hx hb hts uX5_oil_X5 hown hK hP 0 rfl rfl 21 (by decide) (hts _ mX5_oil_2) (fun _ h9 => h9) rfl dX5_oil_54 ?_
      refine lv_bipush (v := (14 : Int32)) hx hb dX5_oil_57 (by decide) ?_
      refine lv_iload_n hx hb dX5_oil_59 rfl (lv_at hl 1 rfl) ?_
      refine lv_iadd hx hb dX5_oil_60 ?_
      obtain ⟨h_6, hf⟩ := pgd hf
      refine va_iald hx hb hK hP 1 1 rfl rfl h_6 dX5_oil_61 ?_
      obtain ⟨h_7, hf⟩ := pgd hf
      refine va_iast hx hb hK hP hD hS 1 1 rfl rfl h_7 dX5_oil_62 (fun H locs hP hD hS => ?_)
      have hP : va_P (dC, dI) vwCl [(a_o, .inr (5, [.int (0 : Int32), .long o_trace, .ref a_o_text, .int o_typed, .int o_next, .int o_token, .int o_place, .int o_value, .int o_fault, .ref a_o_need, .ref a_o_made, .ref a_o_skillTold, .ref a_o_placeTold, .ref a_o_skips, .ref a_o_wheelTold, .int o_trades, .int o_people, .int o_draftTrades, .int o_draftPeople, .int o_isShut, .ref a_o_tunes, .ref a_o_s, .ref a_o_spare, .ref a_o_kept, .ref a_o_isKept, .ref a_o_makes, .ref a_o_works, .ref a_o_order, .int o_falling])), (a_o_s, .inl (cI, 105, .inl (upd o_s ((14 : Int32) + i1).toNatClampNeg (o_s ((14 : Int32) + ((i1 + (1 : Int32)) - (i1 + (1 : Int32)) / o_trades * o_trades)).toNatClampNeg))))] H := hP
      have hD : va_D A [(a_o, .inr (5, [.int (0 : Int32), .long o_trace, .ref a_o_text, .int o_typed, .int o_next, .int o_token, .int o_place, .int o_value, .int o_fault, .ref a_o_need, .ref a_o_made, .ref a_o_skillTold, .ref a_o_placeTold, .ref a_o_skips, .ref a_o_wheelTold, .int o_trades, .int o_people, .int o_draftTrades, .int o_draftPeople, .int o_isShut, .ref a_o_tunes, .ref a_o_s, .ref a_o_spare, .ref a_o_kept, .ref a_o_isKept, .ref a_o_makes, .ref a_o_works, .ref a_o_order, .int o_falling])), (a_o_s, .inl (cI, 105, .inl (upd o_s ((14 : Int32) + i1).toNatClampNeg (o_s ((14 : Int32) + ((i1 + (1 : Int32)) - (i1 + (1 : Int32)) / o_trades * o_trades)).toNatClampNeg))))] := hD
      refine lv_aload_n hx hb dX5_oil_63 rfl (lv_at hl 2 rfl) ?_
      refine va_get (D := (dC, dI)) (ci := 5) (v := .ref a_o_s) (C := RX5) (T := TX5) (N := 29) hx hb hts uX5_oil_X5 hown hK hP 0 rfl rfl 21 (by decide) (hts _ mX5_oil_2) (fun _ h9 => h9) rfl dX5_oil_64 ?_
      refine lv_bipush (v := (14 : Int32)) hx hb dX5_oil_67 (by decide) ?_
      refine lv_iload_n hx hb dX5_oil_69 rfl (lv_at hl 1 rfl) ?_
      refine lv_iadd hx hb dX5_oil_70 ?_
      refine lv_iload_n hx hb dX5_oil_71 rfl (lv_at hl 0 rfl) ?_
      obtain ⟨h_8, hf⟩ := pgd hf
      refine va_iast hx hb hK hP hD hS 1 1 rfl rfl h_8 dX5_oil_72 (fun H locs hP hD hS => ?_)
      have hP : va_P (dC, dI) vwCl [(a_o, .inr (5, [.int (0 : Int32), .long o_trace, .ref a_o_text, .int o_typed, .int o_next, .int o_token, .int o_place, .int o_value, .int o_fault, .ref a_o_need, .ref a_o_made, .ref a_o_skillTold, .ref a_o_placeTold, .ref a_o_skips, .ref a_o_wheelTold, .int o_trades, .int o_people, .int o_draftTrades, .int o_draftPeople, .int o_isShut, .ref a_o_tunes, .ref a_o_s, .ref a_o_spare, .ref a_o_kept, .ref a_o_isKept, .ref a_o_makes, .ref a_o_works, .ref a_o_order, .int o_falling])), (a_o_s, .inl (cI, 105, .inl (upd (upd o_s ((14 : Int32) + i1).toNatClampNeg (o_s ((14 : Int32) + ((i1 + (1 : Int32)) - (i1 + (1 : Int32)) / o_trades * o_trades)).toNatClampNeg)) ((14 : Int32) + ((i1 + (1 : Int32)) - (i1 + (1 : Int32)) / o_trades * o_trades)).toNatClampNeg (o_s ((14 : Int32) + i1).toNatClampNeg))))] H := hP
      have hD : va_D A [(a_o, .inr (5, [.int (0 : Int32), .long o_trace, .ref a_o_text, .int o_typed, .int o_next, .int o_token, .int o_place, .int o_value, .int o_fault, .ref a_o_need, .ref a_o_made, .ref a_o_skillTold, .ref a_o_placeTold, .ref a_o_skips, .ref a_o_wheelTold, .int o_trades, .int o_people, .int o_draftTrades, .int o_draftPeople, .int o_isShut, .ref a_o_tunes, .ref a_o_s, .ref a_o_spare, .ref a_o_kept, .ref a_o_isKept, .ref a_o_makes, .ref a_o_works, .ref a_o_order, .int o_falling])), (a_o_s, .inl (cI, 105, .inl (upd (upd o_s ((14 : Int32) + i1).toNatClampNeg (o_s ((14 : Int32) + ((i1 + (1 : Int32)) - (i1 + (1 : Int32)) / o_trades * o_trades)).toNatClampNeg)) ((14 : Int32) + ((i1 + (1 : Int32)) - (i1 + (1 : Int32)) / o_trades * o_trades)).toNatClampNeg (o_s ((14 : Int32) + i1).toNatClampNeg))))] := hD
      refine lv_aload_n hx hb dX5_oil_73 rfl (lv_at hl 2 rfl) ?_
      refine va_get (D := (dC, dI)) (ci := 5) (v := .ref a_o_s) (C := RX5) (T := TX5) (N := 29) hx hb hts uX5_oil_X5 hown hK hP 0 rfl rfl 21 (by decide) (hts _ mX5_oil_2) (fun _ h9 => h9) rfl dX5_oil_74 ?_
      refine lv_bipush (v := (14 : Int32)) hx hb dX5_oil_77 (by decide) ?_
      refine lv_iload_n hx hb dX5_oil_79 rfl (lv_at hl 3 rfl) ?_
      refine lv_iadd hx hb dX5_oil_80 ?_
      obtain ⟨h_9, hf⟩ := pgd hf
      refine va_iald hx hb hK hP 1 1 rfl rfl h_9 dX5_oil_81 ?_
      have q0 := Option.some.inj hf
      obtain ⟨e0, q1⟩ := Prod.mk.inj q0
      obtain ⟨e1, q2⟩ := Prod.mk.inj q1
      subst e0
      subst e1
      subst q2
      exact gRi hx hb hr hlocks hP hS dX5_oil_82
    · have hf := pit hf c_3
      refine lv_bipush (v := (-2 : Int32)) hx hb dX5_oil_23 (by decide) ?_
      have q0 := Option.some.inj hf
      obtain ⟨e0, q1⟩ := Prod.mk.inj q0
      obtain ⟨e1, q2⟩ := Prod.mk.inj q1
      subst e0
      subst e1
      subst q2
      exact gRi hx hb hr hlocks hP hS dX5_oil_25
  · have hf := pit hf c_2
    refine lv_iconst (v := (-1 : Int32)) hx hb dX5_oil_13 (by decide) ?_
    have q0 := Option.some.inj hf
    obtain ⟨e0, q1⟩ := Prod.mk.inj q0
    obtain ⟨e1, q2⟩ := Prod.mk.inj q1
    subst e0
    subst e1
    subst q2
    exact gRi hx hb hr hlocks hP hS dX5_oil_14
abbrev rmX5_favours : Room := { frames := 2, cells := 0, slots := 0, locals := 43 }
set_option maxRecDepth 20000 in
theorem uX5_favours_X5 : ∀ w ∈ wsX50, w ∈ wsX5_favours := by decide +kernel
set_option maxRecDepth 20000 in
theorem mX5_favours_0 : (Cond.fieldLink RX5 59 "TradeWheelModel" "thrown" "I" : Cond) ∈ wsX5_favours := by decide +kernel
set_option maxRecDepth 20000 in
theorem mX5_favours_1 : (Cond.fieldLink RX5 34 "TradeWheelModel" "s" "[I" : Cond) ∈ wsX5_favours := by decide +kernel
set_option maxHeartbeats 4000000 in
set_option maxRecDepth 100000 in
theorem kX5_favours (l : Launch) (dC : Nat → ClassId) (dI : Nat → Nat → Nat) (Z : gZ) (cC cI cZ cW : ClassId) (a_o a_o_text a_o_need a_o_made a_o_skillTold a_o_placeTold a_o_skips a_o_wheelTold a_o_tunes a_o_s a_o_spare a_o_kept a_o_isKept a_o_makes a_o_works a_o_order : Nat) (sz : Nat) (o_thrown : Int32) (o_trace : Int64) (o_typed : Int32) (o_next : Int32) (o_token : Int32) (o_place : Int32) (o_value : Int32) (o_fault : Int32) (o_trades : Int32) (o_people : Int32) (o_draftTrades : Int32) (o_draftPeople : Int32) (o_isShut : Int32) (o_falling : Int32) (o_s : Nat → Int32) (i1 : Int32) (i2 : Int32) (N : Nat) (r' : Int32) (o_thrown' : Int32) (hf : fX5_favours N o_thrown o_people o_s  i1 i2 = some (r', o_thrown')) : Met l yX5_favours wsX5_favours rmX5_favours (va_Pc [.ref a_o, .int i1, .int i2] (gB (dC, dI) Z [(cC, .char), (cI, .int), (cZ, .boolean), (cW, .object RX3)] [(a_o, .inr (5, [.int o_thrown, .long o_trace, .ref a_o_text, .int o_typed, .int o_next, .int o_token, .int o_place, .int o_value, .int o_fault, .ref a_o_need, .ref a_o_made, .ref a_o_skillTold, .ref a_o_placeTold, .ref a_o_skips, .ref a_o_wheelTold, .int o_trades, .int o_people, .int o_draftTrades, .int o_draftPeople, .int o_isShut, .ref a_o_tunes, .ref a_o_s, .ref a_o_spare, .ref a_o_kept, .ref a_o_isKept, .ref a_o_makes, .ref a_o_works, .ref a_o_order, .int o_falling])), (a_o_s, .inl (cI, 105, .inl o_s))] sz)) (va_Qi (fun (r : Int32) (_ : Unit) => r = r') (gE (dC, dI) [(a_o, .inr (5, [.int o_thrown', .long o_trace, .ref a_o_text, .int o_typed, .int o_next, .int o_token, .int o_place, .int o_value, .int o_fault, .ref a_o_need, .ref a_o_made, .ref a_o_skillTold, .ref a_o_placeTold, .ref a_o_skips, .ref a_o_wheelTold, .int o_trades, .int o_people, .int o_draftTrades, .int o_draftPeople, .int o_isShut, .ref a_o_tunes, .ref a_o_s, .ref a_o_spare, .ref a_o_kept, .ref a_o_isKept, .ref a_o_makes, .ref a_o_works, .ref a_o_order, .int o_falling])), (a_o_s, .inl (cI, 105, .inl o_s))]) (va_A [(a_o, .inr (5, [.int o_thrown, .long o_trace, .ref a_o_text, .int o_typed, .int o_next, .int o_token, .int o_place, .int o_value, .int o_fault, .ref a_o_need, .ref a_o_made, .ref a_o_skillTold, .ref a_o_placeTold, .ref a_o_skips, .ref a_o_wheelTold, .int o_trades, .int o_people, .int o_draftTrades, .int o_draftPeople, .int o_isShut, .ref a_o_tunes, .ref a_o_s, .ref a_o_spare, .ref a_o_kept, .ref a_o_isKept, .ref a_o_makes, .ref a_o_works, .ref a_o_order, .int o_falling])), (a_o_s, .inl (cI, 105, .inl o_s))] sz)) 0 0 (va_A [(a_o, .inr (5, [.int o_thrown, .long o_trace, .ref a_o_text, .int o_typed, .int o_next, .int o_token, .int o_place, .int o_value, .int o_fault, .ref a_o_need, .ref a_o_made, .ref a_o_skillTold, .ref a_o_placeTold, .ref a_o_skips, .ref a_o_wheelTold, .int o_trades, .int o_people, .int o_draftTrades, .int o_draftPeople, .int o_isShut, .ref a_o_tunes, .ref a_o_s, .ref a_o_spare, .ref a_o_kept, .ref a_o_isKept, .ref a_o_makes, .ref a_o_works, .ref a_o_order, .int o_falling])), (a_o_s, .inl (cI, 105, .inl o_s))] sz) := by
  refine gMet (cc := cX5_favours) (maxL := 3) (ret := (some .int)) (Qc := fun A => va_Qi (fun (r : Int32) (_ : Unit) => r = r') (gE (dC, dI) [(a_o, .inr (5, [.int o_thrown', .long o_trace, .ref a_o_text, .int o_typed, .int o_next, .int o_token, .int o_place, .int o_value, .int o_fault, .ref a_o_need, .ref a_o_made, .ref a_o_skillTold, .ref a_o_placeTold, .ref a_o_skips, .ref a_o_wheelTold, .int o_trades, .int o_people, .int o_draftTrades, .int o_draftPeople, .int o_isShut, .ref a_o_tunes, .ref a_o_s, .ref a_o_spare, .ref a_o_kept, .ref a_o_isKept, .ref a_o_makes, .ref a_o_works, .ref a_o_order, .int o_falling])), (a_o_s, .inl (cI, 105, .inl o_s))]) A) (by decide) rfl (Nat.le_of_ble_eq_true rfl) ?_
  intro p e s m below meth c A ls hg0 _ hsz hP hD hS hl
  have hg0 : gX p s m _ meth c cX5_favours 3 (some .int) wsX5_favours RX5 (dC, dI) Z [(cC, .char), (cI, .int), (cZ, .boolean), (cW, .object RX3)] A := hg0
  obtain ⟨hx, hb, hr, hml, hown, hts, hlocks, hA, hK, hN⟩ := id hg0
  subst hsz
  have hF : CallFix p m c cX5_favours 3 s _ wsX5_favours RX5 := ⟨hx, hb, hml, hown, hts⟩
  have hl : lv_has ls 3 [(0, .ref a_o), (1, .int i1), (2, .int i2)] := hl
  unfold fX5_favours at hf
  refine lv_aload_n hx hb dX5_favours_0 rfl (lv_at hl 0 rfl) ?_
  refine lv_iconst (v := (0 : Int32)) hx hb dX5_favours_1 (by decide) ?_
  refine va_put (D := (dC, dI)) (ci := 5) (v := .int (0 : Int32)) (ty := .int) (C := RX5) (T := TX5) (N := 29) hx hb hts uX5_favours_X5 tyX5 tyX5_ok nmX5 hown hK hP hD hS 0 rfl rfl 0 (by decide) (hts _ mX5_favours_0) (fun _ h9 => h9) rfl (by decide +kernel) rfl rfl (Nat.le_of_ble_eq_true rfl) dX5_favours_2 (fun H locs hP hD hS => ?_)
  have hP : va_P (dC, dI) vwCl [(a_o, .inr (5, [.int (0 : Int32), .long o_trace, .ref a_o_text, .int o_typed, .int o_next, .int o_token, .int o_place, .int o_value, .int o_fault, .ref a_o_need, .ref a_o_made, .ref a_o_skillTold, .ref a_o_placeTold, .ref a_o_skips, .ref a_o_wheelTold, .int o_trades, .int o_people, .int o_draftTrades, .int o_draftPeople, .int o_isShut, .ref a_o_tunes, .ref a_o_s, .ref a_o_spare, .ref a_o_kept, .ref a_o_isKept, .ref a_o_makes, .ref a_o_works, .ref a_o_order, .int o_falling])), (a_o_s, .inl (cI, 105, .inl o_s))] H := hP
  have hD : va_D A [(a_o, .inr (5, [.int (0 : Int32), .long o_trace, .ref a_o_text, .int o_typed, .int o_next, .int o_token, .int o_place, .int o_value, .int o_fault, .ref a_o_need, .ref a_o_made, .ref a_o_skillTold, .ref a_o_placeTold, .ref a_o_skips, .ref a_o_wheelTold, .int o_trades, .int o_people, .int o_draftTrades, .int o_draftPeople, .int o_isShut, .ref a_o_tunes, .ref a_o_s, .ref a_o_spare, .ref a_o_kept, .ref a_o_isKept, .ref a_o_makes, .ref a_o_works, .ref a_o_order, .int o_falling])), (a_o_s, .inl (cI, 105, .inl o_s))] := hD
  refine lv_aload_n hx hb dX5_favours_5 rfl (lv_at hl 0 rfl) ?_
  refine lv_iload_n hx hb dX5_favours_6 rfl (lv_at hl 2 rfl) ?_
  obtain ⟨r_1, hc, hf⟩ := pb1 hf
  refine gCi (va_runV (As := [.int i2]) (rest := []) hF (kX5_isPerson l dC dI Z cC cI cZ cW a_o a_o_text a_o_need a_o_made a_o_skillTold a_o_placeTold a_o_skips a_o_wheelTold a_o_tunes a_o_s a_o_spare a_o_kept a_o_isKept a_o_makes a_o_works a_o_order _ (0 : Int32) o_trace o_typed o_next o_token o_place o_value o_fault o_trades o_people o_draftTrades o_draftPeople o_isShut o_falling i2 N r_1 hc) (cwV 1 hts gX5_favours_X5_isPerson rfl rfl rfl (by decide +kernel) ⟨Nat.le_of_ble_eq_true rfl, Nat.le_of_ble_eq_true rfl⟩) (gPV (wc := [(a_o, .inr (5, [.int (0 : Int32), .long o_trace, .ref a_o_text, .int o_typed, .int o_next, .int o_token, .int o_place, .int o_value, .int o_fault, .ref a_o_need, .ref a_o_made, .ref a_o_skillTold, .ref a_o_placeTold, .ref a_o_skips, .ref a_o_wheelTold, .int o_trades, .int o_people, .int o_draftTrades, .int o_draftPeople, .int o_isShut, .ref a_o_tunes, .ref a_o_s, .ref a_o_spare, .ref a_o_kept, .ref a_o_isKept, .ref a_o_makes, .ref a_o_works, .ref a_o_order, .int o_falling]))]) hK hN hA hS hP hD [0] rfl rfl (q0 := 0) (ci := 5) rfl rfl rfl) rfl rfl hl.1 rfl (lv_room (Nat.le_of_ble_eq_true rfl)) dX5_favours_7 ⟨Nat.zero_le _, Nat.zero_le _⟩) hP hD hS hA [0] rfl rfl rfl (fun H locs hP hD hS => ?_)
  have hP : va_P (dC, dI) vwCl [(a_o, .inr (5, [.int (0 : Int32), .long o_trace, .ref a_o_text, .int o_typed, .int o_next, .int o_token, .int o_place, .int o_value, .int o_fault, .ref a_o_need, .ref a_o_made, .ref a_o_skillTold, .ref a_o_placeTold, .ref a_o_skips, .ref a_o_wheelTold, .int o_trades, .int o_people, .int o_draftTrades, .int o_draftPeople, .int o_isShut, .ref a_o_tunes, .ref a_o_s, .ref a_o_spare, .ref a_o_kept, .ref a_o_isKept, .ref a_o_makes, .ref a_o_works, .ref a_o_order, .int o_falling])), (a_o_s, .inl (cI, 105, .inl o_s))] H := hP
  have hD : va_D A [(a_o, .inr (5, [.int (0 : Int32), .long o_trace, .ref a_o_text, .int o_typed, .int o_next, .int o_token, .int o_place, .int o_value, .int o_fault, .ref a_o_need, .ref a_o_made, .ref a_o_skillTold, .ref a_o_placeTold, .ref a_o_skips, .ref a_o_wheelTold, .int o_trades, .int o_people, .int o_draftTrades, .int o_draftPeople, .int o_isShut, .ref a_o_tunes, .ref a_o_s, .ref a_o_spare, .ref a_o_kept, .ref a_o_isKept, .ref a_o_makes, .ref a_o_works, .ref a_o_order, .int o_falling])), (a_o_s, .inl (cI, 105, .inl o_s))] := hD
  refine lv_if_eq (tgt := 43) hx hb dX5_favours_10 (by decide) (fun c_2 => ?_) (fun c_2 => ?_)
  · have hf := pit hf c_2
    refine lv_iconst (v := (-1 : Int32)) hx hb dX5_favours_43 (by decide) ?_
    have q0 := Option.some.inj hf
    obtain ⟨e0, q1⟩ := Prod.mk.inj q0
    subst e0
    subst q1
    exact gRi hx hb hr hlocks hP hS dX5_favours_44
  · have hf := pif hf c_2
    refine lv_aload_n hx hb dX5_favours_13 rfl (lv_at hl 0 rfl) ?_
    refine lv_iload_n hx hb dX5_favours_14 rfl (lv_at hl 1 rfl) ?_
    obtain ⟨r_3, hc, hf⟩ := pb1 hf
    refine gCi (va_runV (As := [.int i1]) (rest := []) hF (kX5_isPerson l dC dI Z cC cI cZ cW a_o a_o_text a_o_need a_o_made a_o_skillTold a_o_placeTold a_o_skips a_o_wheelTold a_o_tunes a_o_s a_o_spare a_o_kept a_o_isKept a_o_makes a_o_works a_o_order _ (0 : Int32) o_trace o_typed o_next o_token o_place o_value o_fault o_trades o_people o_draftTrades o_draftPeople o_isShut o_falling i1 N r_3 hc) (cwV 1 hts gX5_favours_X5_isPerson rfl rfl rfl (by decide +kernel) ⟨Nat.le_of_ble_eq_true rfl, Nat.le_of_ble_eq_true rfl⟩) (gPV (wc := [(a_o, .inr (5, [.int (0 : Int32), .long o_trace, .ref a_o_text, .int o_typed, .int o_next, .int o_token, .int o_place, .int o_value, .int o_fault, .ref a_o_need, .ref a_o_made, .ref a_o_skillTold, .ref a_o_placeTold, .ref a_o_skips, .ref a_o_wheelTold, .int o_trades, .int o_people, .int o_draftTrades, .int o_draftPeople, .int o_isShut, .ref a_o_tunes, .ref a_o_s, .ref a_o_spare, .ref a_o_kept, .ref a_o_isKept, .ref a_o_makes, .ref a_o_works, .ref a_o_order, .int o_falling]))]) hK hN hA hS hP hD [0] rfl rfl (q0 := 0) (ci := 5) rfl rfl rfl) rfl rfl hl.1 rfl (lv_room (Nat.le_of_ble_eq_true rfl)) dX5_favours_15 ⟨Nat.zero_le _, Nat.zero_le _⟩) hP hD hS hA [0] rfl rfl rfl (fun H locs hP hD hS => ?_)
    have hP : va_P (dC, dI) vwCl [(a_o, .inr (5, [.int (0 : Int32), .long o_trace, .ref a_o_text, .int o_typed, .int o_next, .int o_token, .int o_place, .int o_value, .int o_fault, .ref a_o_need, .ref a_o_made, .ref a_o_skillTold, .ref a_o_placeTold, .ref a_o_skips, .ref a_o_wheelTold, .int o_trades, .int o_people, .int o_draftTrades, .int o_draftPeople, .int o_isShut, .ref a_o_tunes, .ref a_o_s, .ref a_o_spare, .ref a_o_kept, .ref a_o_isKept, .ref a_o_makes, .ref a_o_works, .ref a_o_order, .int o_falling])), (a_o_s, .inl (cI, 105, .inl o_s))] H := hP
    have hD : va_D A [(a_o, .inr (5, [.int (0 : Int32), .long o_trace, .ref a_o_text, .int o_typed, .int o_next, .int o_token, .int o_place, .int o_value, .int o_fault, .ref a_o_need, .ref a_o_made, .ref a_o_skillTold, .ref a_o_placeTold, .ref a_o_skips, .ref a_o_wheelTold, .int o_trades, .int o_people, .int o_draftTrades, .int o_draftPeople, .int o_isShut, .ref a_o_tunes, .ref a_o_s, .ref a_o_spare, .ref a_o_kept, .ref a_o_isKept, .ref a_o_makes, .ref a_o_works, .ref a_o_order, .int o_falling])), (a_o_s, .inl (cI, 105, .inl o_s))] := hD
    refine lv_if_eq (tgt := 43) hx hb dX5_favours_18 (by decide) (fun c_4 => ?_) (fun c_4 => ?_)
    · have hf := pit hf c_4
      refine lv_iconst (v := (-1 : Int32)) hx hb dX5_favours_43 (by decide) ?_
      have q0 := Option.some.inj hf
      obtain ⟨e0, q1⟩ := Prod.mk.inj q0
      subst e0
      subst q1
      exact gRi hx hb hr hlocks hP hS dX5_favours_44
    · have hf := pif hf c_4
      refine lv_iload_n hx hb dX5_favours_21 rfl (lv_at hl 2 rfl) ?_
      refine lv_iload_n hx hb dX5_favours_22 rfl (lv_at hl 1 rfl) ?_
      refine lv_icmp_eq (tgt := 43) hx hb dX5_favours_23 (by decide) (fun c_5 => ?_) (fun c_5 => ?_)
      · have hf := pit hf c_5
        refine lv_iconst (v := (-1 : Int32)) hx hb dX5_favours_43 (by decide) ?_
        have q0 := Option.some.inj hf
        obtain ⟨e0, q1⟩ := Prod.mk.inj q0
        subst e0
        subst q1
        exact gRi hx hb hr hlocks hP hS dX5_favours_44
      · have hf := pif hf c_5
        refine lv_aload_n hx hb dX5_favours_26 rfl (lv_at hl 0 rfl) ?_
        refine va_get (D := (dC, dI)) (ci := 5) (v := .ref a_o_s) (C := RX5) (T := TX5) (N := 29) hx hb hts uX5_favours_X5 hown hK hP 0 rfl rfl 21 (by decide) (hts _ mX5_favours_1) (fun _ h9 => h9) rfl dX5_favours_27 ?_
        refine lv_bipush (v := (69 : Int32)) hx hb dX5_favours_30 (by decide) ?_
        refine lv_bipush (v := (6 : Int32)) hx hb dX5_favours_32 (by decide) ?_
        refine lv_iload_n hx hb dX5_favours_34 rfl (lv_at hl 1 rfl) ?_
        refine lv_imul hx hb dX5_favours_35 ?_
        refine lv_iadd hx hb dX5_favours_36 ?_
        refine lv_iload_n hx hb dX5_favours_37 rfl (lv_at hl 2 rfl) ?_
        refine lv_iadd hx hb dX5_favours_38 ?_
        obtain ⟨h_6, hf⟩ := pgd hf
        refine va_iald hx hb hK hP 1 1 rfl rfl h_6 dX5_favours_39 ?_
        refine lv_goto (tgt := 44) hx hb dX5_favours_40 (by decide) ?_
        have q0 := Option.some.inj hf
        obtain ⟨e0, q1⟩ := Prod.mk.inj q0
        subst e0
        subst q1
        exact gRi hx hb hr hlocks hP hS dX5_favours_44
abbrev rmX5_sumOf : Room := { frames := 0, cells := 0, slots := 0, locals := 0 }
set_option maxRecDepth 20000 in
theorem uX5_sumOf_X5 : ∀ w ∈ wsX50, w ∈ wsX5_sumOf := by decide +kernel
set_option maxRecDepth 20000 in
theorem mX5_sumOf_0 : (Cond.fieldLink RX5 137 "TradeWheelModel" "trades" "I" : Cond) ∈ wsX5_sumOf := by decide +kernel
set_option maxRecDepth 20000 in
theorem mX5_sumOf_1 : (Cond.fieldLink RX5 34 "TradeWheelModel" "s" "[I" : Cond) ∈ wsX5_sumOf := by decide +kernel
set_option maxHeartbeats 4000000 in
set_option maxRecDepth 100000 in
theorem wX5_sumOf_4 {p : Program} {l : Launch} {e : Env} {s : State} {m : MethodId} {args : Array Value} {below : List Frame} {meth : Method} {c : Code} {Q : State → Prop} {A : Nat → Prop} {dC : Nat → ClassId} {dI : Nat → Nat → Nat} {Z : gZ} {cC cI cZ cW : ClassId} (hg0 : gX p s m args meth c cX5_sumOf 4 (some .int) wsX5_sumOf RX5 (dC, dI) Z [(cC, .char), (cI, .int), (cZ, .boolean), (cW, .object RX3)] A) (a_o a_o_text a_o_need a_o_made a_o_skillTold a_o_placeTold a_o_skips a_o_wheelTold a_o_tunes a_o_s a_o_spare a_o_kept a_o_isKept a_o_makes a_o_works a_o_order : Nat) (o_thrown : Int32) (o_trace : Int64) (o_typed : Int32) (o_next : Int32) (o_token : Int32) (o_place : Int32) (o_value : Int32) (o_fault : Int32) (o_trades : Int32) (o_people : Int32) (o_draftTrades : Int32) (o_draftPeople : Int32) (o_isShut : Int32) (o_falling : Int32) (o_s : Nat → Int32) (l1 : Int32) (N : Nat) : ∀ (n : Nat) (l2 : Int32) (l3 : Int32) (l2' : Int32) (l3' : Int32), fX5_sumOf_4 N o_trades o_s l1 n l2 l3 = some (l2', l3') → ∀ (H : Heap) (locs : List Loc) (ls : Array Slot), va_P (dC, dI) vwCl [(a_o, .inr (5, [.int o_thrown, .long o_trace, .ref a_o_text, .int o_typed, .int o_next, .int o_token, .int o_place, .int o_value, .int o_fault, .ref a_o_need, .ref a_o_made, .ref a_o_skillTold, .ref a_o_placeTold, .ref a_o_skips, .ref a_o_wheelTold, .int o_trades, .int o_people, .int o_draftTrades, .int o_draftPeople, .int o_isShut, .ref a_o_tunes, .ref a_o_s, .ref a_o_spare, .ref a_o_kept, .ref a_o_isKept, .ref a_o_makes, .ref a_o_works, .ref a_o_order, .int o_falling])), (a_o_s, .inl (cI, 105, .inl o_s))] H → va_D A [(a_o, .inr (5, [.int o_thrown, .long o_trace, .ref a_o_text, .int o_typed, .int o_next, .int o_token, .int o_place, .int o_value, .int o_fault, .ref a_o_need, .ref a_o_made, .ref a_o_skillTold, .ref a_o_placeTold, .ref a_o_skips, .ref a_o_wheelTold, .int o_trades, .int o_people, .int o_draftTrades, .int o_draftPeople, .int o_isShut, .ref a_o_tunes, .ref a_o_s, .ref a_o_spare, .ref a_o_kept, .ref a_o_isKept, .ref a_o_makes, .ref a_o_works, .ref a_o_order, .int o_falling])), (a_o_s, .inl (cI, 105, .inl o_s))] → va_S A s.heap H locs → lv_has ls 4 [(0, .ref a_o), (1, .int l1), (2, .int l2), (3, .int l3)] → (∀ (H : Heap) (locs : List Loc) (ls : Array Slot), va_P (dC, dI) vwCl [(a_o, .inr (5, [.int o_thrown, .long o_trace, .ref a_o_text, .int o_typed, .int o_next, .int o_token, .int o_place, .int o_value, .int o_fault, .ref a_o_need, .ref a_o_made, .ref a_o_skillTold, .ref a_o_placeTold, .ref a_o_skips, .ref a_o_wheelTold, .int o_trades, .int o_people, .int o_draftTrades, .int o_draftPeople, .int o_isShut, .ref a_o_tunes, .ref a_o_s, .ref a_o_spare, .ref a_o_kept, .ref a_o_isKept, .ref a_o_makes, .ref a_o_works, .ref a_o_order, .int o_falling])), (a_o_s, .inl (cI, 105, .inl o_s))] H → va_D A [(a_o, .inr (5, [.int o_thrown, .long o_trace, .ref a_o_text, .int o_typed, .int o_next, .int o_token, .int o_place, .int o_value, .int o_fault, .ref a_o_need, .ref a_o_made, .ref a_o_skillTold, .ref a_o_placeTold, .ref a_o_skips, .ref a_o_wheelTold, .int o_trades, .int o_people, .int o_draftTrades, .int o_draftPeople, .int o_isShut, .ref a_o_tunes, .ref a_o_s, .ref a_o_spare, .ref a_o_kept, .ref a_o_isKept, .ref a_o_makes, .ref a_o_works, .ref a_o_order, .int o_falling])), (a_o_s, .inl (cI, 105, .inl o_s))] → va_S A s.heap H locs → lv_has ls 4 [(2, .int l2')] → W p l e (headSpec wsX5_sumOf rmX5_sumOf).room s m args below meth c H locs 0 0 Q (F0 m 29 ls [])) → W p l e (headSpec wsX5_sumOf rmX5_sumOf).room s m args below meth c H locs 0 0 Q (F0 m 4 ls []) := by
  obtain ⟨hx, hb, hr, hml, hown, hts, hlocks, hA, hK, hN⟩ := id hg0
  have hF : CallFix p m c cX5_sumOf 4 s args wsX5_sumOf RX5 := ⟨hx, hb, hml, hown, hts⟩
  intro n
  induction n with
  | zero =>
    intro l2 l3 l2' l3' hf
    have hf := fX5_sumOf_4_0.symm.trans hf
    cases hf
  | succ n ih =>
    intro l2 l3 l2' l3' hf H locs ls hP hD hS hl kx
    have hf := fX5_sumOf_4_s.symm.trans hf
    refine lv_iload_n hx hb dX5_sumOf_4 rfl (lv_at hl 3 rfl) ?_
    refine lv_aload_n hx hb dX5_sumOf_5 rfl (lv_at hl 0 rfl) ?_
    refine va_get (D := (dC, dI)) (ci := 5) (v := .int o_trades) (C := RX5) (T := TX5) (N := 29) hx hb hts uX5_sumOf_X5 hown hK hP 0 rfl rfl 15 (by decide) (hts _ mX5_sumOf_0) (fun _ h9 => h9) rfl dX5_sumOf_6 ?_
    refine lv_icmp_ge (tgt := 29) hx hb dX5_sumOf_9 (by decide) (fun c_1 => ?_) (fun c_1 => ?_)
    · have hf := pit hf c_1
      have q0 := Option.some.inj hf
      obtain ⟨e0, q1⟩ := Prod.mk.inj q0
      subst e0
      subst q1
      exact kx _ _ _ hP hD hS (lv_sub hl [2] rfl)
    · have hf := pif hf c_1
      refine lv_iload_n hx hb dX5_sumOf_12 rfl (lv_at hl 2 rfl) ?_
      refine lv_aload_n hx hb dX5_sumOf_13 rfl (lv_at hl 0 rfl) ?_
      refine va_get (D := (dC, dI)) (ci := 5) (v := .ref a_o_s) (C := RX5) (T := TX5) (N := 29) hx hb hts uX5_sumOf_X5 hown hK hP 0 rfl rfl 21 (by decide) (hts _ mX5_sumOf_1) (fun _ h9 => h9) rfl dX5_sumOf_14 ?_
      refine lv_iload_n hx hb dX5_sumOf_17 rfl (lv_at hl 1 rfl) ?_
      refine lv_iload_n hx hb dX5_sumOf_18 rfl (lv_at hl 3 rfl) ?_
      refine lv_iadd hx hb dX5_sumOf_19 ?_
      obtain ⟨h_2, hf⟩ := pgd hf
      refine va_iald hx hb hK hP 1 1 rfl rfl h_2 dX5_sumOf_20 ?_
      refine lv_iadd hx hb dX5_sumOf_21 ?_
      refine lv_istore_n (lv' := [(2, .int (l2 + (o_s (l1 + l3).toNatClampNeg))), (0, .ref a_o), (1, .int l1), (3, .int l3)]) hx hb dX5_sumOf_22 rfl hl (by decide) rfl (fun ls hl => ?_)
      refine lv_iinc (v := (l3 + 1)) (lv' := [(3, .int (l3 + 1)), (2, .int (l2 + (o_s (l1 + l3).toNatClampNeg))), (0, .ref a_o), (1, .int l1)]) hx hb dX5_sumOf_23 hl (k := 3) rfl rfl (by decide) rfl (fun ls hl => ?_)
      refine lv_goto (tgt := 4) hx hb dX5_sumOf_26 (by decide) ?_
      exact ih _ _ _ _ hf _ _ _ hP hD hS (lv_sub hl [2, 3, 1, 0] rfl) kx
set_option maxHeartbeats 4000000 in
set_option maxRecDepth 100000 in
theorem kX5_sumOf (l : Launch) (dC : Nat → ClassId) (dI : Nat → Nat → Nat) (Z : gZ) (cC cI cZ cW : ClassId) (a_o a_o_text a_o_need a_o_made a_o_skillTold a_o_placeTold a_o_skips a_o_wheelTold a_o_tunes a_o_s a_o_spare a_o_kept a_o_isKept a_o_makes a_o_works a_o_order : Nat) (sz : Nat) (o_thrown : Int32) (o_trace : Int64) (o_typed : Int32) (o_next : Int32) (o_token : Int32) (o_place : Int32) (o_value : Int32) (o_fault : Int32) (o_trades : Int32) (o_people : Int32) (o_draftTrades : Int32) (o_draftPeople : Int32) (o_isShut : Int32) (o_falling : Int32) (o_s : Nat → Int32) (i1 : Int32) (N : Nat) (r' : Int32) (hf : fX5_sumOf N o_trades o_s  i1 = some r') : Met l yX5_sumOf wsX5_sumOf rmX5_sumOf (va_Pc [.ref a_o, .int i1] (gB (dC, dI) Z [(cC, .char), (cI, .int), (cZ, .boolean), (cW, .object RX3)] [(a_o, .inr (5, [.int o_thrown, .long o_trace, .ref a_o_text, .int o_typed, .int o_next, .int o_token, .int o_place, .int o_value, .int o_fault, .ref a_o_need, .ref a_o_made, .ref a_o_skillTold, .ref a_o_placeTold, .ref a_o_skips, .ref a_o_wheelTold, .int o_trades, .int o_people, .int o_draftTrades, .int o_draftPeople, .int o_isShut, .ref a_o_tunes, .ref a_o_s, .ref a_o_spare, .ref a_o_kept, .ref a_o_isKept, .ref a_o_makes, .ref a_o_works, .ref a_o_order, .int o_falling])), (a_o_s, .inl (cI, 105, .inl o_s))] sz)) (va_Qi (fun (r : Int32) (_ : Unit) => r = r') (gE (dC, dI) [(a_o, .inr (5, [.int o_thrown, .long o_trace, .ref a_o_text, .int o_typed, .int o_next, .int o_token, .int o_place, .int o_value, .int o_fault, .ref a_o_need, .ref a_o_made, .ref a_o_skillTold, .ref a_o_placeTold, .ref a_o_skips, .ref a_o_wheelTold, .int o_trades, .int o_people, .int o_draftTrades, .int o_draftPeople, .int o_isShut, .ref a_o_tunes, .ref a_o_s, .ref a_o_spare, .ref a_o_kept, .ref a_o_isKept, .ref a_o_makes, .ref a_o_works, .ref a_o_order, .int o_falling])), (a_o_s, .inl (cI, 105, .inl o_s))]) (va_A [(a_o, .inr (5, [.int o_thrown, .long o_trace, .ref a_o_text, .int o_typed, .int o_next, .int o_token, .int o_place, .int o_value, .int o_fault, .ref a_o_need, .ref a_o_made, .ref a_o_skillTold, .ref a_o_placeTold, .ref a_o_skips, .ref a_o_wheelTold, .int o_trades, .int o_people, .int o_draftTrades, .int o_draftPeople, .int o_isShut, .ref a_o_tunes, .ref a_o_s, .ref a_o_spare, .ref a_o_kept, .ref a_o_isKept, .ref a_o_makes, .ref a_o_works, .ref a_o_order, .int o_falling])), (a_o_s, .inl (cI, 105, .inl o_s))] sz)) 0 0 (va_A [(a_o, .inr (5, [.int o_thrown, .long o_trace, .ref a_o_text, .int o_typed, .int o_next, .int o_token, .int o_place, .int o_value, .int o_fault, .ref a_o_need, .ref a_o_made, .ref a_o_skillTold, .ref a_o_placeTold, .ref a_o_skips, .ref a_o_wheelTold, .int o_trades, .int o_people, .int o_draftTrades, .int o_draftPeople, .int o_isShut, .ref a_o_tunes, .ref a_o_s, .ref a_o_spare, .ref a_o_kept, .ref a_o_isKept, .ref a_o_makes, .ref a_o_works, .ref a_o_order, .int o_falling])), (a_o_s, .inl (cI, 105, .inl o_s))] sz) := by
  refine gMet (cc := cX5_sumOf) (maxL := 4) (ret := (some .int)) (Qc := fun A => va_Qi (fun (r : Int32) (_ : Unit) => r = r') (gE (dC, dI) [(a_o, .inr (5, [.int o_thrown, .long o_trace, .ref a_o_text, .int o_typed, .int o_next, .int o_token, .int o_place, .int o_value, .int o_fault, .ref a_o_need, .ref a_o_made, .ref a_o_skillTold, .ref a_o_placeTold, .ref a_o_skips, .ref a_o_wheelTold, .int o_trades, .int o_people, .int o_draftTrades, .int o_draftPeople, .int o_isShut, .ref a_o_tunes, .ref a_o_s, .ref a_o_spare, .ref a_o_kept, .ref a_o_isKept, .ref a_o_makes, .ref a_o_works, .ref a_o_order, .int o_falling])), (a_o_s, .inl (cI, 105, .inl o_s))]) A) (by decide) rfl (Nat.le_of_ble_eq_true rfl) ?_
  intro p e s m below meth c A ls hg0 _ hsz hP hD hS hl
  have hg0 : gX p s m _ meth c cX5_sumOf 4 (some .int) wsX5_sumOf RX5 (dC, dI) Z [(cC, .char), (cI, .int), (cZ, .boolean), (cW, .object RX3)] A := hg0
  obtain ⟨hx, hb, hr, hml, hown, hts, hlocks, hA, hK, hN⟩ := id hg0
  subst hsz
  have hF : CallFix p m c cX5_sumOf 4 s _ wsX5_sumOf RX5 := ⟨hx, hb, hml, hown, hts⟩
  have hl : lv_has ls 4 [(0, .ref a_o), (1, .int i1)] := hl
  unfold fX5_sumOf at hf
  refine lv_iconst (v := (0 : Int32)) hx hb dX5_sumOf_0 (by decide) ?_
  refine lv_istore_n (lv' := [(2, .int (0 : Int32)), (0, .ref a_o), (1, .int i1)]) hx hb dX5_sumOf_1 rfl hl (by decide) rfl (fun ls hl => ?_)
  refine lv_iconst (v := (0 : Int32)) hx hb dX5_sumOf_2 (by decide) ?_
  refine lv_istore_n (lv' := [(3, .int (0 : Int32)), (2, .int (0 : Int32)), (0, .ref a_o), (1, .int i1)]) hx hb dX5_sumOf_3 rfl hl (by decide) rfl (fun ls hl => ?_)
  obtain ⟨l2_1, l3_2, hc, hf⟩ := pb2 hf
  refine wX5_sumOf_4 hg0 a_o a_o_text a_o_need a_o_made a_o_skillTold a_o_placeTold a_o_skips a_o_wheelTold a_o_tunes a_o_s a_o_spare a_o_kept a_o_isKept a_o_makes a_o_works a_o_order o_thrown o_trace o_typed o_next o_token o_place o_value o_fault o_trades o_people o_draftTrades o_draftPeople o_isShut o_falling o_s i1 N N (0 : Int32) (0 : Int32) l2_1 l3_2 hc _ _ _ hP hD hS (lv_sub hl [2, 3, 1, 0] rfl) (fun H locs ls hP hD hS hl => ?_)
  refine lv_iload_n hx hb dX5_sumOf_29 rfl (lv_at hl 0 rfl) ?_
  have q0 := Option.some.inj hf
  subst q0
  exact gRi hx hb hr hlocks hP hS dX5_sumOf_30
abbrev rmX5_now : Room := { frames := 1, cells := 0, slots := 0, locals := 23 }
set_option maxRecDepth 20000 in
theorem uX5_now_X5 : ∀ w ∈ wsX50, w ∈ wsX5_now := by decide +kernel
set_option maxRecDepth 20000 in
theorem mX5_now_0 : (Cond.fieldLink RX5 59 "TradeWheelModel" "thrown" "I" : Cond) ∈ wsX5_now := by decide +kernel
set_option maxRecDepth 20000 in
theorem mX5_now_1 : (Cond.fieldLink RX5 34 "TradeWheelModel" "s" "[I" : Cond) ∈ wsX5_now := by decide +kernel
set_option maxHeartbeats 4000000 in
set_option maxRecDepth 100000 in
theorem kX5_now (l : Launch) (dC : Nat → ClassId) (dI : Nat → Nat → Nat) (Z : gZ) (cC cI cZ cW : ClassId) (a_o a_o_text a_o_need a_o_made a_o_skillTold a_o_placeTold a_o_skips a_o_wheelTold a_o_tunes a_o_s a_o_spare a_o_kept a_o_isKept a_o_makes a_o_works a_o_order : Nat) (sz : Nat) (o_thrown : Int32) (o_trace : Int64) (o_typed : Int32) (o_next : Int32) (o_token : Int32) (o_place : Int32) (o_value : Int32) (o_fault : Int32) (o_trades : Int32) (o_people : Int32) (o_draftTrades : Int32) (o_draftPeople : Int32) (o_isShut : Int32) (o_falling : Int32) (o_s : Nat → Int32) (i1 : Int32) (N : Nat) (r' : Int32) (o_thrown' : Int32) (hf : fX5_now N o_thrown o_trades o_s  i1 = some (r', o_thrown')) : Met l yX5_now wsX5_now rmX5_now (va_Pc [.ref a_o, .int i1] (gB (dC, dI) Z [(cC, .char), (cI, .int), (cZ, .boolean), (cW, .object RX3)] [(a_o, .inr (5, [.int o_thrown, .long o_trace, .ref a_o_text, .int o_typed, .int o_next, .int o_token, .int o_place, .int o_value, .int o_fault, .ref a_o_need, .ref a_o_made, .ref a_o_skillTold, .ref a_o_placeTold, .ref a_o_skips, .ref a_o_wheelTold, .int o_trades, .int o_people, .int o_draftTrades, .int o_draftPeople, .int o_isShut, .ref a_o_tunes, .ref a_o_s, .ref a_o_spare, .ref a_o_kept, .ref a_o_isKept, .ref a_o_makes, .ref a_o_works, .ref a_o_order, .int o_falling])), (a_o_s, .inl (cI, 105, .inl o_s))] sz)) (va_Qi (fun (r : Int32) (_ : Unit) => r = r') (gE (dC, dI) [(a_o, .inr (5, [.int o_thrown', .long o_trace, .ref a_o_text, .int o_typed, .int o_next, .int o_token, .int o_place, .int o_value, .int o_fault, .ref a_o_need, .ref a_o_made, .ref a_o_skillTold, .ref a_o_placeTold, .ref a_o_skips, .ref a_o_wheelTold, .int o_trades, .int o_people, .int o_draftTrades, .int o_draftPeople, .int o_isShut, .ref a_o_tunes, .ref a_o_s, .ref a_o_spare, .ref a_o_kept, .ref a_o_isKept, .ref a_o_makes, .ref a_o_works, .ref a_o_order, .int o_falling])), (a_o_s, .inl (cI, 105, .inl o_s))]) (va_A [(a_o, .inr (5, [.int o_thrown, .long o_trace, .ref a_o_text, .int o_typed, .int o_next, .int o_token, .int o_place, .int o_value, .int o_fault, .ref a_o_need, .ref a_o_made, .ref a_o_skillTold, .ref a_o_placeTold, .ref a_o_skips, .ref a_o_wheelTold, .int o_trades, .int o_people, .int o_draftTrades, .int o_draftPeople, .int o_isShut, .ref a_o_tunes, .ref a_o_s, .ref a_o_spare, .ref a_o_kept, .ref a_o_isKept, .ref a_o_makes, .ref a_o_works, .ref a_o_order, .int o_falling])), (a_o_s, .inl (cI, 105, .inl o_s))] sz)) 0 0 (va_A [(a_o, .inr (5, [.int o_thrown, .long o_trace, .ref a_o_text, .int o_typed, .int o_next, .int o_token, .int o_place, .int o_value, .int o_fault, .ref a_o_need, .ref a_o_made, .ref a_o_skillTold, .ref a_o_placeTold, .ref a_o_skips, .ref a_o_wheelTold, .int o_trades, .int o_people, .int o_draftTrades, .int o_draftPeople, .int o_isShut, .ref a_o_tunes, .ref a_o_s, .ref a_o_spare, .ref a_o_kept, .ref a_o_isKept, .ref a_o_makes, .ref a_o_works, .ref a_o_order, .int o_falling])), (a_o_s, .inl (cI, 105, .inl o_s))] sz) := by
  refine gMet (cc := cX5_now) (maxL := 2) (ret := (some .int)) (Qc := fun A => va_Qi (fun (r : Int32) (_ : Unit) => r = r') (gE (dC, dI) [(a_o, .inr (5, [.int o_thrown', .long o_trace, .ref a_o_text, .int o_typed, .int o_next, .int o_token, .int o_place, .int o_value, .int o_fault, .ref a_o_need, .ref a_o_made, .ref a_o_skillTold, .ref a_o_placeTold, .ref a_o_skips, .ref a_o_wheelTold, .int o_trades, .int o_people, .int o_draftTrades, .int o_draftPeople, .int o_isShut, .ref a_o_tunes, .ref a_o_s, .ref a_o_spare, .ref a_o_kept, .ref a_o_isKept, .ref a_o_makes, .ref a_o_works, .ref a_o_order, .int o_falling])), (a_o_s, .inl (cI, 105, .inl o_s))]) A) (by decide) rfl (Nat.le_of_ble_eq_true rfl) ?_
  intro p e s m below meth c A ls hg0 _ hsz hP hD hS hl
  have hg0 : gX p s m _ meth c cX5_now 2 (some .int) wsX5_now RX5 (dC, dI) Z [(cC, .char), (cI, .int), (cZ, .boolean), (cW, .object RX3)] A := hg0
  obtain ⟨hx, hb, hr, hml, hown, hts, hlocks, hA, hK, hN⟩ := id hg0
  subst hsz
  have hF : CallFix p m c cX5_now 2 s _ wsX5_now RX5 := ⟨hx, hb, hml, hown, hts⟩
  have hl : lv_has ls 2 [(0, .ref a_o), (1, .int i1)] := hl
  unfold fX5_now at hf
  refine lv_aload_n hx hb dX5_now_0 rfl (lv_at hl 0 rfl) ?_
  refine lv_iconst (v := (0 : Int32)) hx hb dX5_now_1 (by decide) ?_
  refine va_put (D := (dC, dI)) (ci := 5) (v := .int (0 : Int32)) (ty := .int) (C := RX5) (T := TX5) (N := 29) hx hb hts uX5_now_X5 tyX5 tyX5_ok nmX5 hown hK hP hD hS 0 rfl rfl 0 (by decide) (hts _ mX5_now_0) (fun _ h9 => h9) rfl (by decide +kernel) rfl rfl (Nat.le_of_ble_eq_true rfl) dX5_now_2 (fun H locs hP hD hS => ?_)
  have hP : va_P (dC, dI) vwCl [(a_o, .inr (5, [.int (0 : Int32), .long o_trace, .ref a_o_text, .int o_typed, .int o_next, .int o_token, .int o_place, .int o_value, .int o_fault, .ref a_o_need, .ref a_o_made, .ref a_o_skillTold, .ref a_o_placeTold, .ref a_o_skips, .ref a_o_wheelTold, .int o_trades, .int o_people, .int o_draftTrades, .int o_draftPeople, .int o_isShut, .ref a_o_tunes, .ref a_o_s, .ref a_o_spare, .ref a_o_kept, .ref a_o_isKept, .ref a_o_makes, .ref a_o_works, .ref a_o_order, .int o_falling])), (a_o_s, .inl (cI, 105, .inl o_s))] H := hP
  have hD : va_D A [(a_o, .inr (5, [.int (0 : Int32), .long o_trace, .ref a_o_text, .int o_typed, .int o_next, .int o_token, .int o_place, .int o_value, .int o_fault, .ref a_o_need, .ref a_o_made, .ref a_o_skillTold, .ref a_o_placeTold, .ref a_o_skips, .ref a_o_wheelTold, .int o_trades, .int o_people, .int o_draftTrades, .int o_draftPeople, .int o_isShut, .ref a_o_tunes, .ref a_o_s, .ref a_o_spare, .ref a_o_kept, .ref a_o_isKept, .ref a_o_makes, .ref a_o_works, .ref a_o_order, .int o_falling])), (a_o_s, .inl (cI, 105, .inl o_s))] := hD
  refine lv_iload_n hx hb dX5_now_5 rfl (lv_at hl 1 rfl) ?_
  refine lv_if_ne (tgt := 18) hx hb dX5_now_6 (by decide) (fun c_1 => ?_) (fun c_1 => ?_)
  · have hf := pif hf c_1
    refine lv_iload_n hx hb dX5_now_18 rfl (lv_at hl 1 rfl) ?_
    refine lv_iconst (v := (1 : Int32)) hx hb dX5_now_19 (by decide) ?_
    refine lv_icmp_ne (tgt := 32) hx hb dX5_now_20 (by decide) (fun c_2 => ?_) (fun c_2 => ?_)
    · have hf := pif hf c_2
      refine lv_iload_n hx hb dX5_now_32 rfl (lv_at hl 1 rfl) ?_
      refine lv_iconst (v := (2 : Int32)) hx hb dX5_now_33 (by decide) ?_
      refine lv_icmp_ne (tgt := 46) hx hb dX5_now_34 (by decide) (fun c_3 => ?_) (fun c_3 => ?_)
      · have hf := pif hf c_3
        refine lv_iload_n hx hb dX5_now_46 rfl (lv_at hl 1 rfl) ?_
        refine lv_iconst (v := (3 : Int32)) hx hb dX5_now_47 (by decide) ?_
        refine lv_icmp_ne (tgt := 59) hx hb dX5_now_48 (by decide) (fun c_4 => ?_) (fun c_4 => ?_)
        · have hf := pif hf c_4
          refine lv_iconst (v := (-1 : Int32)) hx hb dX5_now_59 (by decide) ?_
          have q0 := Option.some.inj hf
          obtain ⟨e0, q1⟩ := Prod.mk.inj q0
          subst e0
          subst q1
          exact gRi hx hb hr hlocks hP hS dX5_now_60
        · have hf := pit hf c_4
          refine lv_aload_n hx hb dX5_now_51 rfl (lv_at hl 0 rfl) ?_
          refine lv_iconst (v := (2 : Int32)) hx hb dX5_now_52 (by decide) ?_
          obtain ⟨r_5, hc, hf⟩ := pb1 hf
          refine gCi (va_runV (As := [.int (2 : Int32)]) (rest := []) hF (kX5_sumOf l dC dI Z cC cI cZ cW a_o a_o_text a_o_need a_o_made a_o_skillTold a_o_placeTold a_o_skips a_o_wheelTold a_o_tunes a_o_s a_o_spare a_o_kept a_o_isKept a_o_makes a_o_works a_o_order _ (0 : Int32) o_trace o_typed o_next o_token o_place o_value o_fault o_trades o_people o_draftTrades o_draftPeople o_isShut o_falling o_s (2 : Int32) N r_5 hc) (cwV 1 hts gX5_now_X5_sumOf rfl rfl rfl (by decide +kernel) ⟨Nat.le_of_ble_eq_true rfl, Nat.le_of_ble_eq_true rfl⟩) (gPV (wc := [(a_o, .inr (5, [.int (0 : Int32), .long o_trace, .ref a_o_text, .int o_typed, .int o_next, .int o_token, .int o_place, .int o_value, .int o_fault, .ref a_o_need, .ref a_o_made, .ref a_o_skillTold, .ref a_o_placeTold, .ref a_o_skips, .ref a_o_wheelTold, .int o_trades, .int o_people, .int o_draftTrades, .int o_draftPeople, .int o_isShut, .ref a_o_tunes, .ref a_o_s, .ref a_o_spare, .ref a_o_kept, .ref a_o_isKept, .ref a_o_makes, .ref a_o_works, .ref a_o_order, .int o_falling])), (a_o_s, .inl (cI, 105, .inl o_s))]) hK hN hA hS hP hD [0, 1] rfl rfl (q0 := 0) (ci := 5) rfl rfl rfl) rfl rfl hl.1 rfl (lv_room (Nat.le_of_ble_eq_true rfl)) dX5_now_53 ⟨Nat.zero_le _, Nat.zero_le _⟩) hP hD hS hA [0, 1] rfl rfl rfl (fun H locs hP hD hS => ?_)
          have hP : va_P (dC, dI) vwCl [(a_o, .inr (5, [.int (0 : Int32), .long o_trace, .ref a_o_text, .int o_typed, .int o_next, .int o_token, .int o_place, .int o_value, .int o_fault, .ref a_o_need, .ref a_o_made, .ref a_o_skillTold, .ref a_o_placeTold, .ref a_o_skips, .ref a_o_wheelTold, .int o_trades, .int o_people, .int o_draftTrades, .int o_draftPeople, .int o_isShut, .ref a_o_tunes, .ref a_o_s, .ref a_o_spare, .ref a_o_kept, .ref a_o_isKept, .ref a_o_makes, .ref a_o_works, .ref a_o_order, .int o_falling])), (a_o_s, .inl (cI, 105, .inl o_s))] H := hP
          have hD : va_D A [(a_o, .inr (5, [.int (0 : Int32), .long o_trace, .ref a_o_text, .int o_typed, .int o_next, .int o_token, .int o_place, .int o_value, .int o_fault, .ref a_o_need, .ref a_o_made, .ref a_o_skillTold, .ref a_o_placeTold, .ref a_o_skips, .ref a_o_wheelTold, .int o_trades, .int o_people, .int o_draftTrades, .int o_draftPeople, .int o_isShut, .ref a_o_tunes, .ref a_o_s, .ref a_o_spare, .ref a_o_kept, .ref a_o_isKept, .ref a_o_makes, .ref a_o_works, .ref a_o_order, .int o_falling])), (a_o_s, .inl (cI, 105, .inl o_s))] := hD
          refine lv_goto (tgt := 60) hx hb dX5_now_56 (by decide) ?_
          have q0 := Option.some.inj hf
          obtain ⟨e0, q1⟩ := Prod.mk.inj q0
          subst e0
          subst q1
          exact gRi hx hb hr hlocks hP hS dX5_now_60
      · have hf := pit hf c_3
        refine lv_aload_n hx hb dX5_now_37 rfl (lv_at hl 0 rfl) ?_
        refine va_get (D := (dC, dI)) (ci := 5) (v := .ref a_o_s) (C := RX5) (T := TX5) (N := 29) hx hb hts uX5_now_X5 hown hK hP 0 rfl rfl 21 (by decide) (hts _ mX5_now_1) (fun _ h9 => h9) rfl dX5_now_38 ?_
        refine lv_iconst (v := (1 : Int32)) hx hb dX5_now_41 (by decide) ?_
        obtain ⟨h_6, hf⟩ := pgd hf
        refine va_iald hx hb hK hP 1 1 rfl rfl h_6 dX5_now_42 ?_
        refine lv_goto (tgt := 60) hx hb dX5_now_43 (by decide) ?_
        have q0 := Option.some.inj hf
        obtain ⟨e0, q1⟩ := Prod.mk.inj q0
        subst e0
        subst q1
        exact gRi hx hb hr hlocks hP hS dX5_now_60
    · have hf := pit hf c_2
      refine lv_aload_n hx hb dX5_now_23 rfl (lv_at hl 0 rfl) ?_
      refine lv_bipush (v := (8 : Int32)) hx hb dX5_now_24 (by decide) ?_
      obtain ⟨r_7, hc, hf⟩ := pb1 hf
      refine gCi (va_runV (As := [.int (8 : Int32)]) (rest := []) hF (kX5_sumOf l dC dI Z cC cI cZ cW a_o a_o_text a_o_need a_o_made a_o_skillTold a_o_placeTold a_o_skips a_o_wheelTold a_o_tunes a_o_s a_o_spare a_o_kept a_o_isKept a_o_makes a_o_works a_o_order _ (0 : Int32) o_trace o_typed o_next o_token o_place o_value o_fault o_trades o_people o_draftTrades o_draftPeople o_isShut o_falling o_s (8 : Int32) N r_7 hc) (cwV 1 hts gX5_now_X5_sumOf rfl rfl rfl (by decide +kernel) ⟨Nat.le_of_ble_eq_true rfl, Nat.le_of_ble_eq_true rfl⟩) (gPV (wc := [(a_o, .inr (5, [.int (0 : Int32), .long o_trace, .ref a_o_text, .int o_typed, .int o_next, .int o_token, .int o_place, .int o_value, .int o_fault, .ref a_o_need, .ref a_o_made, .ref a_o_skillTold, .ref a_o_placeTold, .ref a_o_skips, .ref a_o_wheelTold, .int o_trades, .int o_people, .int o_draftTrades, .int o_draftPeople, .int o_isShut, .ref a_o_tunes, .ref a_o_s, .ref a_o_spare, .ref a_o_kept, .ref a_o_isKept, .ref a_o_makes, .ref a_o_works, .ref a_o_order, .int o_falling])), (a_o_s, .inl (cI, 105, .inl o_s))]) hK hN hA hS hP hD [0, 1] rfl rfl (q0 := 0) (ci := 5) rfl rfl rfl) rfl rfl hl.1 rfl (lv_room (Nat.le_of_ble_eq_true rfl)) dX5_now_26 ⟨Nat.zero_le _, Nat.zero_le _⟩) hP hD hS hA [0, 1] rfl rfl rfl (fun H locs hP hD hS => ?_)
      have hP : va_P (dC, dI) vwCl [(a_o, .inr (5, [.int (0 : Int32), .long o_trace, .ref a_o_text, .int o_typed, .int o_next, .int o_token, .int o_place, .int o_value, .int o_fault, .ref a_o_need, .ref a_o_made, .ref a_o_skillTold, .ref a_o_placeTold, .ref a_o_skips, .ref a_o_wheelTold, .int o_trades, .int o_people, .int o_draftTrades, .int o_draftPeople, .int o_isShut, .ref a_o_tunes, .ref a_o_s, .ref a_o_spare, .ref a_o_kept, .ref a_o_isKept, .ref a_o_makes, .ref a_o_works, .ref a_o_order, .int o_falling])), (a_o_s, .inl (cI, 105, .inl o_s))] H := hP
      have hD : va_D A [(a_o, .inr (5, [.int (0 : Int32), .long o_trace, .ref a_o_text, .int o_typed, .int o_next, .int o_token, .int o_place, .int o_value, .int o_fault, .ref a_o_need, .ref a_o_made, .ref a_o_skillTold, .ref a_o_placeTold, .ref a_o_skips, .ref a_o_wheelTold, .int o_trades, .int o_people, .int o_draftTrades, .int o_draftPeople, .int o_isShut, .ref a_o_tunes, .ref a_o_s, .ref a_o_spare, .ref a_o_kept, .ref a_o_isKept, .ref a_o_makes, .ref a_o_works, .ref a_o_order, .int o_falling])), (a_o_s, .inl (cI, 105, .inl o_s))] := hD
      refine lv_goto (tgt := 60) hx hb dX5_now_29 (by decide) ?_
      have q0 := Option.some.inj hf
      obtain ⟨e0, q1⟩ := Prod.mk.inj q0
      subst e0
      subst q1
      exact gRi hx hb hr hlocks hP hS dX5_now_60
  · have hf := pit hf c_1
    refine lv_aload_n hx hb dX5_now_9 rfl (lv_at hl 0 rfl) ?_
    refine va_get (D := (dC, dI)) (ci := 5) (v := .ref a_o_s) (C := RX5) (T := TX5) (N := 29) hx hb hts uX5_now_X5 hown hK hP 0 rfl rfl 21 (by decide) (hts _ mX5_now_1) (fun _ h9 => h9) rfl dX5_now_10 ?_
    refine lv_iconst (v := (0 : Int32)) hx hb dX5_now_13 (by decide) ?_
    obtain ⟨h_8, hf⟩ := pgd hf
    refine va_iald hx hb hK hP 1 1 rfl rfl h_8 dX5_now_14 ?_
    refine lv_goto (tgt := 60) hx hb dX5_now_15 (by decide) ?_
    have q0 := Option.some.inj hf
    obtain ⟨e0, q1⟩ := Prod.mk.inj q0
    subst e0
    subst q1
    exact gRi hx hb hr hlocks hP hS dX5_now_60
abbrev rmX5_anew : Room := { frames := 1, cells := 0, slots := 0, locals := 21 }
set_option maxRecDepth 20000 in
theorem uX5_anew_X5 : ∀ w ∈ wsX50, w ∈ wsX5_anew := by decide +kernel
set_option maxRecDepth 20000 in
theorem mX5_anew_0 : (Cond.fieldLink RX5 59 "TradeWheelModel" "thrown" "I" : Cond) ∈ wsX5_anew := by decide +kernel
set_option maxRecDepth 20000 in
theorem mX5_anew_1 : (Cond.fieldLink RX5 34 "TradeWheelModel" "s" "[I" : Cond) ∈ wsX5_anew := by decide +kernel
set_option maxHeartbeats 4000000 in
set_option maxRecDepth 100000 in
theorem kX5_anew (l : Launch) (dC : Nat → ClassId) (dI : Nat → Nat → Nat) (Z : gZ) (cC cI cZ cW : ClassId) (a_o a_o_text a_o_need a_o_made a_o_skillTold a_o_placeTold a_o_skips a_o_wheelTold a_o_tunes a_o_s a_o_spare a_o_kept a_o_isKept a_o_makes a_o_works a_o_order : Nat) (sz : Nat) (o_thrown : Int32) (o_trace : Int64) (o_typed : Int32) (o_next : Int32) (o_token : Int32) (o_place : Int32) (o_value : Int32) (o_fault : Int32) (o_trades : Int32) (o_people : Int32) (o_draftTrades : Int32) (o_draftPeople : Int32) (o_isShut : Int32) (o_falling : Int32) (o_skillTold : Nat → Int32) (o_placeTold : Nat → Int32) (o_wheelTold : Nat → Int32) (o_s : Nat → Int32)  (N : Nat) (r' : Int32) (o_thrown' : Int32) (o_s' : Nat → Int32) (hf : fX5_anew N o_thrown o_skillTold o_placeTold o_wheelTold o_s   = some (r', o_thrown', o_s')) : Met l yX5_anew wsX5_anew rmX5_anew (va_Pc [.ref a_o] (gB (dC, dI) Z [(cC, .char), (cI, .int), (cZ, .boolean), (cW, .object RX3)] [(a_o, .inr (5, [.int o_thrown, .long o_trace, .ref a_o_text, .int o_typed, .int o_next, .int o_token, .int o_place, .int o_value, .int o_fault, .ref a_o_need, .ref a_o_made, .ref a_o_skillTold, .ref a_o_placeTold, .ref a_o_skips, .ref a_o_wheelTold, .int o_trades, .int o_people, .int o_draftTrades, .int o_draftPeople, .int o_isShut, .ref a_o_tunes, .ref a_o_s, .ref a_o_spare, .ref a_o_kept, .ref a_o_isKept, .ref a_o_makes, .ref a_o_works, .ref a_o_order, .int o_falling])), (a_o_skillTold, .inl (cI, 72, .inl o_skillTold)), (a_o_placeTold, .inl (cI, 12, .inl o_placeTold)), (a_o_wheelTold, .inl (cI, 12, .inl o_wheelTold)), (a_o_s, .inl (cI, 105, .inl o_s))] sz)) (va_Qi (fun (r : Int32) (_ : Unit) => r = r') (gE (dC, dI) [(a_o, .inr (5, [.int o_thrown', .long o_trace, .ref a_o_text, .int o_typed, .int o_next, .int o_token, .int o_place, .int o_value, .int o_fault, .ref a_o_need, .ref a_o_made, .ref a_o_skillTold, .ref a_o_placeTold, .ref a_o_skips, .ref a_o_wheelTold, .int o_trades, .int o_people, .int o_draftTrades, .int o_draftPeople, .int o_isShut, .ref a_o_tunes, .ref a_o_s, .ref a_o_spare, .ref a_o_kept, .ref a_o_isKept, .ref a_o_makes, .ref a_o_works, .ref a_o_order, .int o_falling])), (a_o_skillTold, .inl (cI, 72, .inl o_skillTold)), (a_o_placeTold, .inl (cI, 12, .inl o_placeTold)), (a_o_wheelTold, .inl (cI, 12, .inl o_wheelTold)), (a_o_s, .inl (cI, 105, .inl o_s'))]) (va_A [(a_o, .inr (5, [.int o_thrown, .long o_trace, .ref a_o_text, .int o_typed, .int o_next, .int o_token, .int o_place, .int o_value, .int o_fault, .ref a_o_need, .ref a_o_made, .ref a_o_skillTold, .ref a_o_placeTold, .ref a_o_skips, .ref a_o_wheelTold, .int o_trades, .int o_people, .int o_draftTrades, .int o_draftPeople, .int o_isShut, .ref a_o_tunes, .ref a_o_s, .ref a_o_spare, .ref a_o_kept, .ref a_o_isKept, .ref a_o_makes, .ref a_o_works, .ref a_o_order, .int o_falling])), (a_o_skillTold, .inl (cI, 72, .inl o_skillTold)), (a_o_placeTold, .inl (cI, 12, .inl o_placeTold)), (a_o_wheelTold, .inl (cI, 12, .inl o_wheelTold)), (a_o_s, .inl (cI, 105, .inl o_s))] sz)) 0 0 (va_A [(a_o, .inr (5, [.int o_thrown, .long o_trace, .ref a_o_text, .int o_typed, .int o_next, .int o_token, .int o_place, .int o_value, .int o_fault, .ref a_o_need, .ref a_o_made, .ref a_o_skillTold, .ref a_o_placeTold, .ref a_o_skips, .ref a_o_wheelTold, .int o_trades, .int o_people, .int o_draftTrades, .int o_draftPeople, .int o_isShut, .ref a_o_tunes, .ref a_o_s, .ref a_o_spare, .ref a_o_kept, .ref a_o_isKept, .ref a_o_makes, .ref a_o_works, .ref a_o_order, .int o_falling])), (a_o_skillTold, .inl (cI, 72, .inl o_skillTold)), (a_o_placeTold, .inl (cI, 12, .inl o_placeTold)), (a_o_wheelTold, .inl (cI, 12, .inl o_wheelTold)), (a_o_s, .inl (cI, 105, .inl o_s))] sz) := by
  refine gMet (cc := cX5_anew) (maxL := 2) (ret := (some .int)) (Qc := fun A => va_Qi (fun (r : Int32) (_ : Unit) => r = r') (gE (dC, dI) [(a_o, .inr (5, [.int o_thrown', .long o_trace, .ref a_o_text, .int o_typed, .int o_next, .int o_token, .int o_place, .int o_value, .int o_fault, .ref a_o_need, .ref a_o_made, .ref a_o_skillTold, .ref a_o_placeTold, .ref a_o_skips, .ref a_o_wheelTold, .int o_trades, .int o_people, .int o_draftTrades, .int o_draftPeople, .int o_isShut, .ref a_o_tunes, .ref a_o_s, .ref a_o_spare, .ref a_o_kept, .ref a_o_isKept, .ref a_o_makes, .ref a_o_works, .ref a_o_order, .int o_falling])), (a_o_skillTold, .inl (cI, 72, .inl o_skillTold)), (a_o_placeTold, .inl (cI, 12, .inl o_placeTold)), (a_o_wheelTold, .inl (cI, 12, .inl o_wheelTold)), (a_o_s, .inl (cI, 105, .inl o_s'))]) A) (by decide) rfl (Nat.le_of_ble_eq_true rfl) ?_
  intro p e s m below meth c A ls hg0 _ hsz hP hD hS hl
  have hg0 : gX p s m _ meth c cX5_anew 2 (some .int) wsX5_anew RX5 (dC, dI) Z [(cC, .char), (cI, .int), (cZ, .boolean), (cW, .object RX3)] A := hg0
  obtain ⟨hx, hb, hr, hml, hown, hts, hlocks, hA, hK, hN⟩ := id hg0
  subst hsz
  have hF : CallFix p m c cX5_anew 2 s _ wsX5_anew RX5 := ⟨hx, hb, hml, hown, hts⟩
  have hl : lv_has ls 2 [(0, .ref a_o)] := hl
  unfold fX5_anew at hf
  refine lv_aload_n hx hb dX5_anew_0 rfl (lv_at hl 0 rfl) ?_
  refine lv_iconst (v := (0 : Int32)) hx hb dX5_anew_1 (by decide) ?_
  refine va_put (D := (dC, dI)) (ci := 5) (v := .int (0 : Int32)) (ty := .int) (C := RX5) (T := TX5) (N := 29) hx hb hts uX5_anew_X5 tyX5 tyX5_ok nmX5 hown hK hP hD hS 0 rfl rfl 0 (by decide) (hts _ mX5_anew_0) (fun _ h9 => h9) rfl (by decide +kernel) rfl rfl (Nat.le_of_ble_eq_true rfl) dX5_anew_2 (fun H locs hP hD hS => ?_)
  have hP : va_P (dC, dI) vwCl [(a_o, .inr (5, [.int (0 : Int32), .long o_trace, .ref a_o_text, .int o_typed, .int o_next, .int o_token, .int o_place, .int o_value, .int o_fault, .ref a_o_need, .ref a_o_made, .ref a_o_skillTold, .ref a_o_placeTold, .ref a_o_skips, .ref a_o_wheelTold, .int o_trades, .int o_people, .int o_draftTrades, .int o_draftPeople, .int o_isShut, .ref a_o_tunes, .ref a_o_s, .ref a_o_spare, .ref a_o_kept, .ref a_o_isKept, .ref a_o_makes, .ref a_o_works, .ref a_o_order, .int o_falling])), (a_o_skillTold, .inl (cI, 72, .inl o_skillTold)), (a_o_placeTold, .inl (cI, 12, .inl o_placeTold)), (a_o_wheelTold, .inl (cI, 12, .inl o_wheelTold)), (a_o_s, .inl (cI, 105, .inl o_s))] H := hP
  have hD : va_D A [(a_o, .inr (5, [.int (0 : Int32), .long o_trace, .ref a_o_text, .int o_typed, .int o_next, .int o_token, .int o_place, .int o_value, .int o_fault, .ref a_o_need, .ref a_o_made, .ref a_o_skillTold, .ref a_o_placeTold, .ref a_o_skips, .ref a_o_wheelTold, .int o_trades, .int o_people, .int o_draftTrades, .int o_draftPeople, .int o_isShut, .ref a_o_tunes, .ref a_o_s, .ref a_o_spare, .ref a_o_kept, .ref a_o_isKept, .ref a_o_makes, .ref a_o_works, .ref a_o_order, .int o_falling])), (a_o_skillTold, .inl (cI, 72, .inl o_skillTold)), (a_o_placeTold, .inl (cI, 12, .inl o_placeTold)), (a_o_wheelTold, .inl (cI, 12, .inl o_wheelTold)), (a_o_s, .inl (cI, 105, .inl o_s))] := hD
  refine lv_aload_n hx hb dX5_anew_5 rfl (lv_at hl 0 rfl) ?_
  refine va_get (D := (dC, dI)) (ci := 5) (v := .ref a_o_s) (C := RX5) (T := TX5) (N := 29) hx hb hts uX5_anew_X5 hown hK hP 0 rfl rfl 21 (by decide) (hts _ mX5_anew_1) (fun _ h9 => h9) rfl dX5_anew_6 ?_
  refine lv_iconst (v := (0 : Int32)) hx hb dX5_anew_9 (by decide) ?_
  obtain ⟨h_1, hf⟩ := pgd hf
  refine va_iald hx hb hK hP 4 1 rfl rfl h_1 dX5_anew_10 ?_
  refine lv_istore_n (lv' := [(1, .int (o_s (0 : Int32).toNatClampNeg)), (0, .ref a_o)]) hx hb dX5_anew_11 rfl hl (by decide) rfl (fun ls hl => ?_)
  refine lv_aload_n hx hb dX5_anew_12 rfl (lv_at hl 1 rfl) ?_
  obtain ⟨o_s_2, hc, hf⟩ := pb1 hf
  refine gCv (va_runV (As := []) (rest := []) hF (kX5_begins l dC dI Z cC cI cZ cW a_o a_o_text a_o_need a_o_made a_o_skillTold a_o_placeTold a_o_skips a_o_wheelTold a_o_tunes a_o_s a_o_spare a_o_kept a_o_isKept a_o_makes a_o_works a_o_order _ (0 : Int32) o_trace o_typed o_next o_token o_place o_value o_fault o_trades o_people o_draftTrades o_draftPeople o_isShut o_falling o_skillTold o_placeTold o_wheelTold o_s  N o_s_2 hc) (cwV 0 hts gX5_anew_X5_begins rfl rfl rfl (by decide +kernel) ⟨Nat.le_of_ble_eq_true rfl, Nat.le_of_ble_eq_true rfl⟩) (gPV (wc := [(a_o, .inr (5, [.int (0 : Int32), .long o_trace, .ref a_o_text, .int o_typed, .int o_next, .int o_token, .int o_place, .int o_value, .int o_fault, .ref a_o_need, .ref a_o_made, .ref a_o_skillTold, .ref a_o_placeTold, .ref a_o_skips, .ref a_o_wheelTold, .int o_trades, .int o_people, .int o_draftTrades, .int o_draftPeople, .int o_isShut, .ref a_o_tunes, .ref a_o_s, .ref a_o_spare, .ref a_o_kept, .ref a_o_isKept, .ref a_o_makes, .ref a_o_works, .ref a_o_order, .int o_falling])), (a_o_skillTold, .inl (cI, 72, .inl o_skillTold)), (a_o_placeTold, .inl (cI, 12, .inl o_placeTold)), (a_o_wheelTold, .inl (cI, 12, .inl o_wheelTold)), (a_o_s, .inl (cI, 105, .inl o_s))]) hK hN hA hS hP hD [0, 1, 2, 3, 4] rfl rfl (q0 := 0) (ci := 5) rfl rfl rfl) rfl rfl hl.1 rfl (lv_room (Nat.le_of_ble_eq_true rfl)) dX5_anew_13 ⟨Nat.zero_le _, Nat.zero_le _⟩) hP hD hS hA [0, 1, 2, 3, 4] rfl rfl rfl (fun H locs hP hD hS => ?_)
  have hP : va_P (dC, dI) vwCl [(a_o, .inr (5, [.int (0 : Int32), .long o_trace, .ref a_o_text, .int o_typed, .int o_next, .int o_token, .int o_place, .int o_value, .int o_fault, .ref a_o_need, .ref a_o_made, .ref a_o_skillTold, .ref a_o_placeTold, .ref a_o_skips, .ref a_o_wheelTold, .int o_trades, .int o_people, .int o_draftTrades, .int o_draftPeople, .int o_isShut, .ref a_o_tunes, .ref a_o_s, .ref a_o_spare, .ref a_o_kept, .ref a_o_isKept, .ref a_o_makes, .ref a_o_works, .ref a_o_order, .int o_falling])), (a_o_skillTold, .inl (cI, 72, .inl o_skillTold)), (a_o_placeTold, .inl (cI, 12, .inl o_placeTold)), (a_o_wheelTold, .inl (cI, 12, .inl o_wheelTold)), (a_o_s, .inl (cI, 105, .inl o_s_2))] H := hP
  have hD : va_D A [(a_o, .inr (5, [.int (0 : Int32), .long o_trace, .ref a_o_text, .int o_typed, .int o_next, .int o_token, .int o_place, .int o_value, .int o_fault, .ref a_o_need, .ref a_o_made, .ref a_o_skillTold, .ref a_o_placeTold, .ref a_o_skips, .ref a_o_wheelTold, .int o_trades, .int o_people, .int o_draftTrades, .int o_draftPeople, .int o_isShut, .ref a_o_tunes, .ref a_o_s, .ref a_o_spare, .ref a_o_kept, .ref a_o_isKept, .ref a_o_makes, .ref a_o_works, .ref a_o_order, .int o_falling])), (a_o_skillTold, .inl (cI, 72, .inl o_skillTold)), (a_o_placeTold, .inl (cI, 12, .inl o_placeTold)), (a_o_wheelTold, .inl (cI, 12, .inl o_wheelTold)), (a_o_s, .inl (cI, 105, .inl o_s_2))] := hD
  refine lv_iload_n hx hb dX5_anew_16 rfl (lv_at hl 0 rfl) ?_
  have q0 := Option.some.inj hf
  obtain ⟨e0, q1⟩ := Prod.mk.inj q0
  obtain ⟨e1, q2⟩ := Prod.mk.inj q1
  subst e0
  subst e1
  subst q2
  exact gRi hx hb hr hlocks hP hS dX5_anew_17
abbrev rmX5_aside : Room := { frames := 0, cells := 0, slots := 0, locals := 0 }
set_option maxRecDepth 20000 in
theorem uX5_aside_X5 : ∀ w ∈ wsX50, w ∈ wsX5_aside := by decide +kernel
set_option maxRecDepth 20000 in
theorem mX5_aside_0 : (Cond.fieldLink RX5 34 "TradeWheelModel" "s" "[I" : Cond) ∈ wsX5_aside := by decide +kernel
set_option maxRecDepth 20000 in
theorem mX5_aside_1 : (Cond.fieldLink RX5 37 "TradeWheelModel" "spare" "[I" : Cond) ∈ wsX5_aside := by decide +kernel
set_option maxHeartbeats 4000000 in
set_option maxRecDepth 100000 in
theorem wX5_aside_2 {p : Program} {l : Launch} {e : Env} {s : State} {m : MethodId} {args : Array Value} {below : List Frame} {meth : Method} {c : Code} {Q : State → Prop} {A : Nat → Prop} {dC : Nat → ClassId} {dI : Nat → Nat → Nat} {Z : gZ} {cC cI cZ cW : ClassId} (hg0 : gX p s m args meth c cX5_aside 3 none wsX5_aside RX5 (dC, dI) Z [(cC, .char), (cI, .int), (cZ, .boolean), (cW, .object RX3)] A) (a_o a_o_text a_o_need a_o_made a_o_skillTold a_o_placeTold a_o_skips a_o_wheelTold a_o_tunes a_o_s a_o_spare a_o_kept a_o_isKept a_o_makes a_o_works a_o_order : Nat) (o_thrown : Int32) (o_trace : Int64) (o_typed : Int32) (o_next : Int32) (o_token : Int32) (o_place : Int32) (o_value : Int32) (o_fault : Int32) (o_trades : Int32) (o_people : Int32) (o_draftTrades : Int32) (o_draftPeople : Int32) (o_isShut : Int32) (o_falling : Int32) (l1 : Int32) (N : Nat) : ∀ (n : Nat) (o_s : Nat → Int32) (o_spare : Nat → Int32) (l2 : Int32) (o_s' : Nat → Int32) (o_spare' : Nat → Int32) (l2' : Int32), fX5_aside_2 N l1 n o_s o_spare l2 = some (o_s', o_spare', l2') → ∀ (H : Heap) (locs : List Loc) (ls : Array Slot), va_P (dC, dI) vwCl [(a_o, .inr (5, [.int o_thrown, .long o_trace, .ref a_o_text, .int o_typed, .int o_next, .int o_token, .int o_place, .int o_value, .int o_fault, .ref a_o_need, .ref a_o_made, .ref a_o_skillTold, .ref a_o_placeTold, .ref a_o_skips, .ref a_o_wheelTold, .int o_trades, .int o_people, .int o_draftTrades, .int o_draftPeople, .int o_isShut, .ref a_o_tunes, .ref a_o_s, .ref a_o_spare, .ref a_o_kept, .ref a_o_isKept, .ref a_o_makes, .ref a_o_works, .ref a_o_order, .int o_falling])), (a_o_s, .inl (cI, 105, .inl o_s)), (a_o_spare, .inl (cI, 105, .inl o_spare))] H → va_D A [(a_o, .inr (5, [.int o_thrown, .long o_trace, .ref a_o_text, .int o_typed, .int o_next, .int o_token, .int o_place, .int o_value, .int o_fault, .ref a_o_need, .ref a_o_made, .ref a_o_skillTold, .ref a_o_placeTold, .ref a_o_skips, .ref a_o_wheelTold, .int o_trades, .int o_people, .int o_draftTrades, .int o_draftPeople, .int o_isShut, .ref a_o_tunes, .ref a_o_s, .ref a_o_spare, .ref a_o_kept, .ref a_o_isKept, .ref a_o_makes, .ref a_o_works, .ref a_o_order, .int o_falling])), (a_o_s, .inl (cI, 105, .inl o_s)), (a_o_spare, .inl (cI, 105, .inl o_spare))] → va_S A s.heap H locs → lv_has ls 3 [(0, .ref a_o), (1, .int l1), (2, .int l2)] → (∀ (H : Heap) (locs : List Loc) (ls : Array Slot), va_P (dC, dI) vwCl [(a_o, .inr (5, [.int o_thrown, .long o_trace, .ref a_o_text, .int o_typed, .int o_next, .int o_token, .int o_place, .int o_value, .int o_fault, .ref a_o_need, .ref a_o_made, .ref a_o_skillTold, .ref a_o_placeTold, .ref a_o_skips, .ref a_o_wheelTold, .int o_trades, .int o_people, .int o_draftTrades, .int o_draftPeople, .int o_isShut, .ref a_o_tunes, .ref a_o_s, .ref a_o_spare, .ref a_o_kept, .ref a_o_isKept, .ref a_o_makes, .ref a_o_works, .ref a_o_order, .int o_falling])), (a_o_s, .inl (cI, 105, .inl o_s')), (a_o_spare, .inl (cI, 105, .inl o_spare'))] H → va_D A [(a_o, .inr (5, [.int o_thrown, .long o_trace, .ref a_o_text, .int o_typed, .int o_next, .int o_token, .int o_place, .int o_value, .int o_fault, .ref a_o_need, .ref a_o_made, .ref a_o_skillTold, .ref a_o_placeTold, .ref a_o_skips, .ref a_o_wheelTold, .int o_trades, .int o_people, .int o_draftTrades, .int o_draftPeople, .int o_isShut, .ref a_o_tunes, .ref a_o_s, .ref a_o_spare, .ref a_o_kept, .ref a_o_isKept, .ref a_o_makes, .ref a_o_works, .ref a_o_order, .int o_falling])), (a_o_s, .inl (cI, 105, .inl o_s')), (a_o_spare, .inl (cI, 105, .inl o_spare'))] → va_S A s.heap H locs → lv_has ls 3 [] → W p l e (headSpec wsX5_aside rmX5_aside).room s m args below meth c H locs 0 0 Q (F0 m 45 ls [])) → W p l e (headSpec wsX5_aside rmX5_aside).room s m args below meth c H locs 0 0 Q (F0 m 2 ls []) := by
  obtain ⟨hx, hb, hr, hml, hown, hts, hlocks, hA, hK, hN⟩ := id hg0
  have hF : CallFix p m c cX5_aside 3 s args wsX5_aside RX5 := ⟨hx, hb, hml, hown, hts⟩
  intro n
  induction n with
  | zero =>
    intro o_s o_spare l2 o_s' o_spare' l2' hf
    have hf := fX5_aside_2_0.symm.trans hf
    cases hf
  | succ n ih =>
    intro o_s o_spare l2 o_s' o_spare' l2' hf H locs ls hP hD hS hl kx
    have hf := fX5_aside_2_s.symm.trans hf
    refine lv_iload_n hx hb dX5_aside_2 rfl (lv_at hl 2 rfl) ?_
    refine lv_bipush (v := (105 : Int32)) hx hb dX5_aside_3 (by decide) ?_
    refine lv_icmp_ge (tgt := 45) hx hb dX5_aside_5 (by decide) (fun c_1 => ?_) (fun c_1 => ?_)
    · have hf := pit hf c_1
      have q0 := Option.some.inj hf
      obtain ⟨e0, q1⟩ := Prod.mk.inj q0
      obtain ⟨e1, q2⟩ := Prod.mk.inj q1
      subst e0
      subst e1
      subst q2
      exact kx _ _ _ hP hD hS (lv_sub hl [] rfl)
    · have hf := pif hf c_1
      refine lv_iload_n hx hb dX5_aside_8 rfl (lv_at hl 1 rfl) ?_
      refine lv_if_eq (tgt := 27) hx hb dX5_aside_9 (by decide) (fun c_2 => ?_) (fun c_2 => ?_)
      · have hf := pit hf c_2
        refine lv_aload_n hx hb dX5_aside_27 rfl (lv_at hl 0 rfl) ?_
        refine va_get (D := (dC, dI)) (ci := 5) (v := .ref a_o_s) (C := RX5) (T := TX5) (N := 29) hx hb hts uX5_aside_X5 hown hK hP 0 rfl rfl 21 (by decide) (hts _ mX5_aside_0) (fun _ h9 => h9) rfl dX5_aside_28 ?_
        refine lv_iload_n hx hb dX5_aside_31 rfl (lv_at hl 2 rfl) ?_
        refine lv_aload_n hx hb dX5_aside_32 rfl (lv_at hl 0 rfl) ?_
        refine va_get (D := (dC, dI)) (ci := 5) (v := .ref a_o_spare) (C := RX5) (T := TX5) (N := 29) hx hb hts uX5_aside_X5 hown hK hP 0 rfl rfl 22 (by decide) (hts _ mX5_aside_1) (fun _ h9 => h9) rfl dX5_aside_33 ?_
        refine lv_iload_n hx hb dX5_aside_36 rfl (lv_at hl 2 rfl) ?_
        obtain ⟨h_3, hf⟩ := pgd hf
        refine va_iald hx hb hK hP 2 1 rfl rfl h_3 dX5_aside_37 ?_
        obtain ⟨h_4, hf⟩ := pgd hf
        refine va_iast hx hb hK hP hD hS 1 1 rfl rfl h_4 dX5_aside_38 (fun H locs hP hD hS => ?_)
        have hP : va_P (dC, dI) vwCl [(a_o, .inr (5, [.int o_thrown, .long o_trace, .ref a_o_text, .int o_typed, .int o_next, .int o_token, .int o_place, .int o_value, .int o_fault, .ref a_o_need, .ref a_o_made, .ref a_o_skillTold, .ref a_o_placeTold, .ref a_o_skips, .ref a_o_wheelTold, .int o_trades, .int o_people, .int o_draftTrades, .int o_draftPeople, .int o_isShut, .ref a_o_tunes, .ref a_o_s, .ref a_o_spare, .ref a_o_kept, .ref a_o_isKept, .ref a_o_makes, .ref a_o_works, .ref a_o_order, .int o_falling])), (a_o_s, .inl (cI, 105, .inl (upd o_s l2.toNatClampNeg (o_spare l2.toNatClampNeg)))), (a_o_spare, .inl (cI, 105, .inl o_spare))] H := hP
        have hD : va_D A [(a_o, .inr (5, [.int o_thrown, .long o_trace, .ref a_o_text, .int o_typed, .int o_next, .int o_token, .int o_place, .int o_value, .int o_fault, .ref a_o_need, .ref a_o_made, .ref a_o_skillTold, .ref a_o_placeTold, .ref a_o_skips, .ref a_o_wheelTold, .int o_trades, .int o_people, .int o_draftTrades, .int o_draftPeople, .int o_isShut, .ref a_o_tunes, .ref a_o_s, .ref a_o_spare, .ref a_o_kept, .ref a_o_isKept, .ref a_o_makes, .ref a_o_works, .ref a_o_order, .int o_falling])), (a_o_s, .inl (cI, 105, .inl (upd o_s l2.toNatClampNeg (o_spare l2.toNatClampNeg)))), (a_o_spare, .inl (cI, 105, .inl o_spare))] := hD
        refine lv_iinc (v := (l2 + 1)) (lv' := [(2, .int (l2 + 1)), (0, .ref a_o), (1, .int l1)]) hx hb dX5_aside_39 hl (k := 2) rfl rfl (by decide) rfl (fun ls hl => ?_)
        refine lv_goto (tgt := 2) hx hb dX5_aside_42 (by decide) ?_
        exact ih _ _ _ _ _ _ hf _ _ _ hP hD hS (lv_sub hl [1, 2, 0] rfl) kx
      · have hf := pif hf c_2
        refine lv_aload_n hx hb dX5_aside_12 rfl (lv_at hl 0 rfl) ?_
        refine va_get (D := (dC, dI)) (ci := 5) (v := .ref a_o_spare) (C := RX5) (T := TX5) (N := 29) hx hb hts uX5_aside_X5 hown hK hP 0 rfl rfl 22 (by decide) (hts _ mX5_aside_1) (fun _ h9 => h9) rfl dX5_aside_13 ?_
        refine lv_iload_n hx hb dX5_aside_16 rfl (lv_at hl 2 rfl) ?_
        refine lv_aload_n hx hb dX5_aside_17 rfl (lv_at hl 0 rfl) ?_
        refine va_get (D := (dC, dI)) (ci := 5) (v := .ref a_o_s) (C := RX5) (T := TX5) (N := 29) hx hb hts uX5_aside_X5 hown hK hP 0 rfl rfl 21 (by decide) (hts _ mX5_aside_0) (fun _ h9 => h9) rfl dX5_aside_18 ?_
        refine lv_iload_n hx hb dX5_aside_21 rfl (lv_at hl 2 rfl) ?_
        obtain ⟨h_5, hf⟩ := pgd hf
        refine va_iald hx hb hK hP 1 1 rfl rfl h_5 dX5_aside_22 ?_
        obtain ⟨h_6, hf⟩ := pgd hf
        refine va_iast hx hb hK hP hD hS 2 1 rfl rfl h_6 dX5_aside_23 (fun H locs hP hD hS => ?_)
        have hP : va_P (dC, dI) vwCl [(a_o, .inr (5, [.int o_thrown, .long o_trace, .ref a_o_text, .int o_typed, .int o_next, .int o_token, .int o_place, .int o_value, .int o_fault, .ref a_o_need, .ref a_o_made, .ref a_o_skillTold, .ref a_o_placeTold, .ref a_o_skips, .ref a_o_wheelTold, .int o_trades, .int o_people, .int o_draftTrades, .int o_draftPeople, .int o_isShut, .ref a_o_tunes, .ref a_o_s, .ref a_o_spare, .ref a_o_kept, .ref a_o_isKept, .ref a_o_makes, .ref a_o_works, .ref a_o_order, .int o_falling])), (a_o_s, .inl (cI, 105, .inl o_s)), (a_o_spare, .inl (cI, 105, .inl (upd o_spare l2.toNatClampNeg (o_s l2.toNatClampNeg))))] H := hP
        have hD : va_D A [(a_o, .inr (5, [.int o_thrown, .long o_trace, .ref a_o_text, .int o_typed, .int o_next, .int o_token, .int o_place, .int o_value, .int o_fault, .ref a_o_need, .ref a_o_made, .ref a_o_skillTold, .ref a_o_placeTold, .ref a_o_skips, .ref a_o_wheelTold, .int o_trades, .int o_people, .int o_draftTrades, .int o_draftPeople, .int o_isShut, .ref a_o_tunes, .ref a_o_s, .ref a_o_spare, .ref a_o_kept, .ref a_o_isKept, .ref a_o_makes, .ref a_o_works, .ref a_o_order, .int o_falling])), (a_o_s, .inl (cI, 105, .inl o_s)), (a_o_spare, .inl (cI, 105, .inl (upd o_spare l2.toNatClampNeg (o_s l2.toNatClampNeg))))] := hD
        refine lv_goto (tgt := 39) hx hb dX5_aside_24 (by decide) ?_
        refine lv_iinc (v := (l2 + 1)) (lv' := [(2, .int (l2 + 1)), (0, .ref a_o), (1, .int l1)]) hx hb dX5_aside_39 hl (k := 2) rfl rfl (by decide) rfl (fun ls hl => ?_)
        refine lv_goto (tgt := 2) hx hb dX5_aside_42 (by decide) ?_
        exact ih _ _ _ _ _ _ hf _ _ _ hP hD hS (lv_sub hl [1, 2, 0] rfl) kx
set_option maxHeartbeats 4000000 in
set_option maxRecDepth 100000 in
theorem kX5_aside (l : Launch) (dC : Nat → ClassId) (dI : Nat → Nat → Nat) (Z : gZ) (cC cI cZ cW : ClassId) (a_o a_o_text a_o_need a_o_made a_o_skillTold a_o_placeTold a_o_skips a_o_wheelTold a_o_tunes a_o_s a_o_spare a_o_kept a_o_isKept a_o_makes a_o_works a_o_order : Nat) (sz : Nat) (o_thrown : Int32) (o_trace : Int64) (o_typed : Int32) (o_next : Int32) (o_token : Int32) (o_place : Int32) (o_value : Int32) (o_fault : Int32) (o_trades : Int32) (o_people : Int32) (o_draftTrades : Int32) (o_draftPeople : Int32) (o_isShut : Int32) (o_falling : Int32) (o_s : Nat → Int32) (o_spare : Nat → Int32) (i1 : Int32) (N : Nat) (o_s' : Nat → Int32) (o_spare' : Nat → Int32) (hf : fX5_aside N o_s o_spare  i1 = some (o_s', o_spare')) : Met l yX5_aside wsX5_aside rmX5_aside (va_Pc [.ref a_o, .int i1] (gB (dC, dI) Z [(cC, .char), (cI, .int), (cZ, .boolean), (cW, .object RX3)] [(a_o, .inr (5, [.int o_thrown, .long o_trace, .ref a_o_text, .int o_typed, .int o_next, .int o_token, .int o_place, .int o_value, .int o_fault, .ref a_o_need, .ref a_o_made, .ref a_o_skillTold, .ref a_o_placeTold, .ref a_o_skips, .ref a_o_wheelTold, .int o_trades, .int o_people, .int o_draftTrades, .int o_draftPeople, .int o_isShut, .ref a_o_tunes, .ref a_o_s, .ref a_o_spare, .ref a_o_kept, .ref a_o_isKept, .ref a_o_makes, .ref a_o_works, .ref a_o_order, .int o_falling])), (a_o_s, .inl (cI, 105, .inl o_s)), (a_o_spare, .inl (cI, 105, .inl o_spare))] sz)) (va_Qv (fun (_ : Unit) => True) (gE (dC, dI) [(a_o, .inr (5, [.int o_thrown, .long o_trace, .ref a_o_text, .int o_typed, .int o_next, .int o_token, .int o_place, .int o_value, .int o_fault, .ref a_o_need, .ref a_o_made, .ref a_o_skillTold, .ref a_o_placeTold, .ref a_o_skips, .ref a_o_wheelTold, .int o_trades, .int o_people, .int o_draftTrades, .int o_draftPeople, .int o_isShut, .ref a_o_tunes, .ref a_o_s, .ref a_o_spare, .ref a_o_kept, .ref a_o_isKept, .ref a_o_makes, .ref a_o_works, .ref a_o_order, .int o_falling])), (a_o_s, .inl (cI, 105, .inl o_s')), (a_o_spare, .inl (cI, 105, .inl o_spare'))]) (va_A [(a_o, .inr (5, [.int o_thrown, .long o_trace, .ref a_o_text, .int o_typed, .int o_next, .int o_token, .int o_place, .int o_value, .int o_fault, .ref a_o_need, .ref a_o_made, .ref a_o_skillTold, .ref a_o_placeTold, .ref a_o_skips, .ref a_o_wheelTold, .int o_trades, .int o_people, .int o_draftTrades, .int o_draftPeople, .int o_isShut, .ref a_o_tunes, .ref a_o_s, .ref a_o_spare, .ref a_o_kept, .ref a_o_isKept, .ref a_o_makes, .ref a_o_works, .ref a_o_order, .int o_falling])), (a_o_s, .inl (cI, 105, .inl o_s)), (a_o_spare, .inl (cI, 105, .inl o_spare))] sz)) 0 0 (va_A [(a_o, .inr (5, [.int o_thrown, .long o_trace, .ref a_o_text, .int o_typed, .int o_next, .int o_token, .int o_place, .int o_value, .int o_fault, .ref a_o_need, .ref a_o_made, .ref a_o_skillTold, .ref a_o_placeTold, .ref a_o_skips, .ref a_o_wheelTold, .int o_trades, .int o_people, .int o_draftTrades, .int o_draftPeople, .int o_isShut, .ref a_o_tunes, .ref a_o_s, .ref a_o_spare, .ref a_o_kept, .ref a_o_isKept, .ref a_o_makes, .ref a_o_works, .ref a_o_order, .int o_falling])), (a_o_s, .inl (cI, 105, .inl o_s)), (a_o_spare, .inl (cI, 105, .inl o_spare))] sz) := by
  refine gMet (cc := cX5_aside) (maxL := 3) (ret := none) (Qc := fun A => va_Qv (fun (_ : Unit) => True) (gE (dC, dI) [(a_o, .inr (5, [.int o_thrown, .long o_trace, .ref a_o_text, .int o_typed, .int o_next, .int o_token, .int o_place, .int o_value, .int o_fault, .ref a_o_need, .ref a_o_made, .ref a_o_skillTold, .ref a_o_placeTold, .ref a_o_skips, .ref a_o_wheelTold, .int o_trades, .int o_people, .int o_draftTrades, .int o_draftPeople, .int o_isShut, .ref a_o_tunes, .ref a_o_s, .ref a_o_spare, .ref a_o_kept, .ref a_o_isKept, .ref a_o_makes, .ref a_o_works, .ref a_o_order, .int o_falling])), (a_o_s, .inl (cI, 105, .inl o_s')), (a_o_spare, .inl (cI, 105, .inl o_spare'))]) A) (by decide) rfl (Nat.le_of_ble_eq_true rfl) ?_
  intro p e s m below meth c A ls hg0 _ hsz hP hD hS hl
  have hg0 : gX p s m _ meth c cX5_aside 3 none wsX5_aside RX5 (dC, dI) Z [(cC, .char), (cI, .int), (cZ, .boolean), (cW, .object RX3)] A := hg0
  obtain ⟨hx, hb, hr, hml, hown, hts, hlocks, hA, hK, hN⟩ := id hg0
  subst hsz
  have hF : CallFix p m c cX5_aside 3 s _ wsX5_aside RX5 := ⟨hx, hb, hml, hown, hts⟩
  have hl : lv_has ls 3 [(0, .ref a_o), (1, .int i1)] := hl
  unfold fX5_aside at hf
  refine lv_iconst (v := (0 : Int32)) hx hb dX5_aside_0 (by decide) ?_
  refine lv_istore_n (lv' := [(2, .int (0 : Int32)), (0, .ref a_o), (1, .int i1)]) hx hb dX5_aside_1 rfl hl (by decide) rfl (fun ls hl => ?_)
  obtain ⟨o_s_1, o_spare_2, l2_3, hc, hf⟩ := pb3 hf
  refine wX5_aside_2 hg0 a_o a_o_text a_o_need a_o_made a_o_skillTold a_o_placeTold a_o_skips a_o_wheelTold a_o_tunes a_o_s a_o_spare a_o_kept a_o_isKept a_o_makes a_o_works a_o_order o_thrown o_trace o_typed o_next o_token o_place o_value o_fault o_trades o_people o_draftTrades o_draftPeople o_isShut o_falling i1 N N o_s o_spare (0 : Int32) o_s_1 o_spare_2 l2_3 hc _ _ _ hP hD hS (lv_sub hl [1, 2, 0] rfl) (fun H locs ls hP hD hS hl => ?_)
  have q0 := Option.some.inj hf
  obtain ⟨e0, q1⟩ := Prod.mk.inj q0
  subst e0
  subst q1
  exact gRv hx hb hr hlocks hP hS dX5_aside_45
abbrev rmX5_lacksIn : Room := { frames := 4, cells := 0, slots := 0, locals := 93 }
set_option maxRecDepth 20000 in
theorem uX5_lacksIn_X5 : ∀ w ∈ wsX50, w ∈ wsX5_lacksIn := by decide +kernel
set_option maxRecDepth 20000 in
theorem mX5_lacksIn_0 : (Cond.fieldLink RX5 34 "TradeWheelModel" "s" "[I" : Cond) ∈ wsX5_lacksIn := by decide +kernel
set_option maxRecDepth 20000 in
theorem mX5_lacksIn_1 : (Cond.fieldLink RX5 178 "TradeWheelModel" "falling" "I" : Cond) ∈ wsX5_lacksIn := by decide +kernel
set_option maxHeartbeats 4000000 in
set_option maxRecDepth 100000 in
theorem wX5_lacksIn_12 {p : Program} {l : Launch} {e : Env} {s : State} {m : MethodId} {args : Array Value} {below : List Frame} {meth : Method} {c : Code} {Q : State → Prop} {A : Nat → Prop} {dC : Nat → ClassId} {dI : Nat → Nat → Nat} {Z : gZ} {cC cI cZ cW : ClassId} (hg0 : gX p s m args meth c cX5_lacksIn 5 (some .int) wsX5_lacksIn RX5 (dC, dI) Z [(cC, .char), (cI, .int), (cZ, .boolean), (cW, .object RX3)] A) (a_o a_o_text a_o_need a_o_made a_o_skillTold a_o_placeTold a_o_skips a_o_wheelTold a_o_tunes a_o_s a_o_spare a_o_kept a_o_isKept a_o_makes a_o_works a_o_order : Nat) (o_thrown : Int32) (o_trace : Int64) (o_typed : Int32) (o_next : Int32) (o_token : Int32) (o_place : Int32) (o_value : Int32) (o_fault : Int32) (o_trades : Int32) (o_people : Int32) (o_draftTrades : Int32) (o_draftPeople : Int32) (o_isShut : Int32) (o_falling : Int32) (o_need : Nat → Int32) (o_made : Nat → Int32) (o_skips : Nat → Int32) (o_tunes : Nat → Int32) (l1 : Int32) (l2 : Int32) (N : Nat) : ∀ (n : Nat) (o_s : Nat → Int32) (o_makes : Nat → Int32) (o_works : Nat → Int32) (l3 : Int32) (l4 : Int32) (o_s' : Nat → Int32) (o_makes' : Nat → Int32) (o_works' : Nat → Int32) (l3' : Int32) (l4' : Int32), fX5_lacksIn_12 N o_trades o_people o_need o_made o_skips o_tunes l1 n o_s o_makes o_works l3 l4 = some (o_s', o_makes', o_works', l3', l4') → ∀ (H : Heap) (locs : List Loc) (ls : Array Slot), va_P (dC, dI) vwCl [(a_o, .inr (5, [.int o_thrown, .long o_trace, .ref a_o_text, .int o_typed, .int o_next, .int o_token, .int o_place, .int o_value, .int o_fault, .ref a_o_need, .ref a_o_made, .ref a_o_skillTold, .ref a_o_placeTold, .ref a_o_skips, .ref a_o_wheelTold, .int o_trades, .int o_people, .int o_draftTrades, .int o_draftPeople, .int o_isShut, .ref a_o_tunes, .ref a_o_s, .ref a_o_spare, .ref a_o_kept, .ref a_o_isKept, .ref a_o_makes, .ref a_o_works, .ref a_o_order, .int o_falling])), (a_o_need, .inl (cI, 12, .inl o_need)), (a_o_made, .inl (cI, 12, .inl o_made)), (a_o_skips, .inl (cI, 12, .inl o_skips)), (a_o_tunes, .inl (cI, 3, .inl o_tunes)), (a_o_s, .inl (cI, 105, .inl o_s)), (a_o_makes, .inl (cI, 6, .inl o_makes)), (a_o_works, .inl (cI, 6, .inl o_works))] H → va_D A [(a_o, .inr (5, [.int o_thrown, .long o_trace, .ref a_o_text, .int o_typed, .int o_next, .int o_token, .int o_place, .int o_value, .int o_fault, .ref a_o_need, .ref a_o_made, .ref a_o_skillTold, .ref a_o_placeTold, .ref a_o_skips, .ref a_o_wheelTold, .int o_trades, .int o_people, .int o_draftTrades, .int o_draftPeople, .int o_isShut, .ref a_o_tunes, .ref a_o_s, .ref a_o_spare, .ref a_o_kept, .ref a_o_isKept, .ref a_o_makes, .ref a_o_works, .ref a_o_order, .int o_falling])), (a_o_need, .inl (cI, 12, .inl o_need)), (a_o_made, .inl (cI, 12, .inl o_made)), (a_o_skips, .inl (cI, 12, .inl o_skips)), (a_o_tunes, .inl (cI, 3, .inl o_tunes)), (a_o_s, .inl (cI, 105, .inl o_s)), (a_o_makes, .inl (cI, 6, .inl o_makes)), (a_o_works, .inl (cI, 6, .inl o_works))] → va_S A s.heap H locs → lv_has ls 5 [(0, .ref a_o), (1, .int l1), (2, .int l2), (3, .int l3), (4, .int l4)] → (∀ (H : Heap) (locs : List Loc) (ls : Array Slot), va_P (dC, dI) vwCl [(a_o, .inr (5, [.int o_thrown, .long o_trace, .ref a_o_text, .int o_typed, .int o_next, .int o_token, .int o_place, .int o_value, .int o_fault, .ref a_o_need, .ref a_o_made, .ref a_o_skillTold, .ref a_o_placeTold, .ref a_o_skips, .ref a_o_wheelTold, .int o_trades, .int o_people, .int o_draftTrades, .int o_draftPeople, .int o_isShut, .ref a_o_tunes, .ref a_o_s, .ref a_o_spare, .ref a_o_kept, .ref a_o_isKept, .ref a_o_makes, .ref a_o_works, .ref a_o_order, .int o_falling])), (a_o_need, .inl (cI, 12, .inl o_need)), (a_o_made, .inl (cI, 12, .inl o_made)), (a_o_skips, .inl (cI, 12, .inl o_skips)), (a_o_tunes, .inl (cI, 3, .inl o_tunes)), (a_o_s, .inl (cI, 105, .inl o_s')), (a_o_makes, .inl (cI, 6, .inl o_makes')), (a_o_works, .inl (cI, 6, .inl o_works'))] H → va_D A [(a_o, .inr (5, [.int o_thrown, .long o_trace, .ref a_o_text, .int o_typed, .int o_next, .int o_token, .int o_place, .int o_value, .int o_fault, .ref a_o_need, .ref a_o_made, .ref a_o_skillTold, .ref a_o_placeTold, .ref a_o_skips, .ref a_o_wheelTold, .int o_trades, .int o_people, .int o_draftTrades, .int o_draftPeople, .int o_isShut, .ref a_o_tunes, .ref a_o_s, .ref a_o_spare, .ref a_o_kept, .ref a_o_isKept, .ref a_o_makes, .ref a_o_works, .ref a_o_order, .int o_falling])), (a_o_need, .inl (cI, 12, .inl o_need)), (a_o_made, .inl (cI, 12, .inl o_made)), (a_o_skips, .inl (cI, 12, .inl o_skips)), (a_o_tunes, .inl (cI, 3, .inl o_tunes)), (a_o_s, .inl (cI, 105, .inl o_s')), (a_o_makes, .inl (cI, 6, .inl o_makes')), (a_o_works, .inl (cI, 6, .inl o_works'))] → va_S A s.heap H locs → lv_has ls 5 [(0, .ref a_o), (2, .int l2), (3, .int l3')] → W p l e (headSpec wsX5_lacksIn rmX5_lacksIn).room s m args below meth c H locs 0 0 Q (F0 m 42 ls [])) → W p l e (headSpec wsX5_lacksIn rmX5_lacksIn).room s m args below meth c H locs 0 0 Q (F0 m 12 ls []) := by
  obtain ⟨hx, hb, hr, hml, hown, hts, hlocks, hA, hK, hN⟩ := id hg0
  have hF : CallFix p m c cX5_lacksIn 5 s args wsX5_lacksIn RX5 := ⟨hx, hb, hml, hown, hts⟩
  intro n
  induction n with
  | zero =>
    intro o_s o_makes o_works l3 l4 o_s' o_makes' o_works' l3' l4' hf
    have hf := fX5_lacksIn_12_0.symm.trans hf
    cases hf
  | succ n ih =>
    intro o_s o_makes o_works l3 l4 o_s' o_makes' o_works' l3' l4' hf H locs ls hP hD hS hl kx
    have hf := fX5_lacksIn_12_s.symm.trans hf
    refine lv_iload hx hb dX5_lacksIn_12 (lv_at hl 4 rfl) ?_
    refine lv_iload_n hx hb dX5_lacksIn_14 rfl (lv_at hl 1 rfl) ?_
    refine lv_icmp_ge (tgt := 42) hx hb dX5_lacksIn_15 (by decide) (fun c_1 => ?_) (fun c_1 => ?_)
    · have hf := pit hf c_1
      have q0 := Option.some.inj hf
      obtain ⟨e0, q1⟩ := Prod.mk.inj q0
      obtain ⟨e1, q2⟩ := Prod.mk.inj q1
      obtain ⟨e2, q3⟩ := Prod.mk.inj q2
      obtain ⟨e3, q4⟩ := Prod.mk.inj q3
      subst e0
      subst e1
      subst e2
      subst e3
      subst q4
      exact kx _ _ _ hP hD hS (lv_sub hl [0, 2, 3] rfl)
    · have hf := pif hf c_1
      refine lv_aload_n hx hb dX5_lacksIn_18 rfl (lv_at hl 0 rfl) ?_
      refine va_get (D := (dC, dI)) (ci := 5) (v := .ref a_o_s) (C := RX5) (T := TX5) (N := 29) hx hb hts uX5_lacksIn_X5 hown hK hP 0 rfl rfl 21 (by decide) (hts _ mX5_lacksIn_0) (fun _ h9 => h9) rfl dX5_lacksIn_19 ?_
      refine lv_iconst (v := (0 : Int32)) hx hb dX5_lacksIn_22 (by decide) ?_
      obtain ⟨h_2, hf⟩ := pgd hf
      refine va_iald hx hb hK hP 5 1 rfl rfl h_2 dX5_lacksIn_23 ?_
      refine lv_bipush (v := (99 : Int32)) hx hb dX5_lacksIn_24 (by decide) ?_
      refine lv_icmp_ge (tgt := 42) hx hb dX5_lacksIn_26 (by decide) (fun c_3 => ?_) (fun c_3 => ?_)
      · have hf := pit hf c_3
        have q0 := Option.some.inj hf
        obtain ⟨e0, q1⟩ := Prod.mk.inj q0
        obtain ⟨e1, q2⟩ := Prod.mk.inj q1
        obtain ⟨e2, q3⟩ := Prod.mk.inj q2
        obtain ⟨e3, q4⟩ := Prod.mk.inj q3
        subst e0
        subst e1
        subst e2
        subst e3
        subst q4
        exact kx _ _ _ hP hD hS (lv_sub hl [0, 2, 3] rfl)
      · have hf := pif hf c_3
        refine lv_iload_n hx hb dX5_lacksIn_29 rfl (lv_at hl 3 rfl) ?_
        refine lv_aload_n hx hb dX5_lacksIn_30 rfl (lv_at hl 0 rfl) ?_
        obtain ⟨r_4, o_s_5, o_makes_6, o_works_7, hc, hf⟩ := pb4 hf
        refine gCi (va_runV (As := []) (rest := [.int l3]) hF (kX5_goesBy l dC dI Z cC cI cZ cW a_o a_o_text a_o_need a_o_made a_o_skillTold a_o_placeTold a_o_skips a_o_wheelTold a_o_tunes a_o_s a_o_spare a_o_kept a_o_isKept a_o_makes a_o_works a_o_order _ o_thrown o_trace o_typed o_next o_token o_place o_value o_fault o_trades o_people o_draftTrades o_draftPeople o_isShut o_falling o_need o_made o_skips o_tunes o_s o_makes o_works  N r_4 o_s_5 o_makes_6 o_works_7 hc) (cwV 0 hts gX5_lacksIn_X5_goesBy rfl rfl rfl (by decide +kernel) ⟨Nat.le_of_ble_eq_true rfl, Nat.le_of_ble_eq_true rfl⟩) (gPV (wc := [(a_o, .inr (5, [.int o_thrown, .long o_trace, .ref a_o_text, .int o_typed, .int o_next, .int o_token, .int o_place, .int o_value, .int o_fault, .ref a_o_need, .ref a_o_made, .ref a_o_skillTold, .ref a_o_placeTold, .ref a_o_skips, .ref a_o_wheelTold, .int o_trades, .int o_people, .int o_draftTrades, .int o_draftPeople, .int o_isShut, .ref a_o_tunes, .ref a_o_s, .ref a_o_spare, .ref a_o_kept, .ref a_o_isKept, .ref a_o_makes, .ref a_o_works, .ref a_o_order, .int o_falling])), (a_o_need, .inl (cI, 12, .inl o_need)), (a_o_made, .inl (cI, 12, .inl o_made)), (a_o_skips, .inl (cI, 12, .inl o_skips)), (a_o_tunes, .inl (cI, 3, .inl o_tunes)), (a_o_s, .inl (cI, 105, .inl o_s)), (a_o_makes, .inl (cI, 6, .inl o_makes)), (a_o_works, .inl (cI, 6, .inl o_works))]) hK hN hA hS hP hD [0, 1, 2, 3, 4, 5, 6, 7] rfl rfl (q0 := 0) (ci := 5) rfl rfl rfl) rfl rfl hl.1 rfl (lv_room (Nat.le_of_ble_eq_true rfl)) dX5_lacksIn_31 ⟨Nat.zero_le _, Nat.zero_le _⟩) hP hD hS hA [0, 1, 2, 3, 4, 5, 6, 7] rfl rfl rfl (fun H locs hP hD hS => ?_)
        have hP : va_P (dC, dI) vwCl [(a_o, .inr (5, [.int o_thrown, .long o_trace, .ref a_o_text, .int o_typed, .int o_next, .int o_token, .int o_place, .int o_value, .int o_fault, .ref a_o_need, .ref a_o_made, .ref a_o_skillTold, .ref a_o_placeTold, .ref a_o_skips, .ref a_o_wheelTold, .int o_trades, .int o_people, .int o_draftTrades, .int o_draftPeople, .int o_isShut, .ref a_o_tunes, .ref a_o_s, .ref a_o_spare, .ref a_o_kept, .ref a_o_isKept, .ref a_o_makes, .ref a_o_works, .ref a_o_order, .int o_falling])), (a_o_need, .inl (cI, 12, .inl o_need)), (a_o_made, .inl (cI, 12, .inl o_made)), (a_o_skips, .inl (cI, 12, .inl o_skips)), (a_o_tunes, .inl (cI, 3, .inl o_tunes)), (a_o_s, .inl (cI, 105, .inl o_s_5)), (a_o_makes, .inl (cI, 6, .inl o_makes_6)), (a_o_works, .inl (cI, 6, .inl o_works_7))] H := hP
        have hD : va_D A [(a_o, .inr (5, [.int o_thrown, .long o_trace, .ref a_o_text, .int o_typed, .int o_next, .int o_token, .int o_place, .int o_value, .int o_fault, .ref a_o_need, .ref a_o_made, .ref a_o_skillTold, .ref a_o_placeTold, .ref a_o_skips, .ref a_o_wheelTold, .int o_trades, .int o_people, .int o_draftTrades, .int o_draftPeople, .int o_isShut, .ref a_o_tunes, .ref a_o_s, .ref a_o_spare, .ref a_o_kept, .ref a_o_isKept, .ref a_o_makes, .ref a_o_works, .ref a_o_order, .int o_falling])), (a_o_need, .inl (cI, 12, .inl o_need)), (a_o_made, .inl (cI, 12, .inl o_made)), (a_o_skips, .inl (cI, 12, .inl o_skips)), (a_o_tunes, .inl (cI, 3, .inl o_tunes)), (a_o_s, .inl (cI, 105, .inl o_s_5)), (a_o_makes, .inl (cI, 6, .inl o_makes_6)), (a_o_works, .inl (cI, 6, .inl o_works_7))] := hD
        refine lv_iadd hx hb dX5_lacksIn_34 ?_
        refine lv_istore_n (lv' := [(3, .int (l3 + r_4)), (0, .ref a_o), (1, .int l1), (2, .int l2), (4, .int l4)]) hx hb dX5_lacksIn_35 rfl hl (by decide) rfl (fun ls hl => ?_)
        refine lv_iinc (v := (l4 + 1)) (lv' := [(4, .int (l4 + 1)), (3, .int (l3 + r_4)), (0, .ref a_o), (1, .int l1), (2, .int l2)]) hx hb dX5_lacksIn_36 hl (k := 4) rfl rfl (by decide) rfl (fun ls hl => ?_)
        refine lv_goto (tgt := 12) hx hb dX5_lacksIn_39 (by decide) ?_
        exact ih _ _ _ _ _ _ _ _ _ _ hf _ _ _ hP hD hS (lv_sub hl [2, 3, 4, 1, 0] rfl) kx
set_option maxHeartbeats 4000000 in
set_option maxRecDepth 100000 in
theorem kX5_lacksIn (l : Launch) (dC : Nat → ClassId) (dI : Nat → Nat → Nat) (Z : gZ) (cC cI cZ cW : ClassId) (a_o a_o_text a_o_need a_o_made a_o_skillTold a_o_placeTold a_o_skips a_o_wheelTold a_o_tunes a_o_s a_o_spare a_o_kept a_o_isKept a_o_makes a_o_works a_o_order : Nat) (sz : Nat) (o_thrown : Int32) (o_trace : Int64) (o_typed : Int32) (o_next : Int32) (o_token : Int32) (o_place : Int32) (o_value : Int32) (o_fault : Int32) (o_trades : Int32) (o_people : Int32) (o_draftTrades : Int32) (o_draftPeople : Int32) (o_isShut : Int32) (o_falling : Int32) (o_need : Nat → Int32) (o_made : Nat → Int32) (o_skips : Nat → Int32) (o_tunes : Nat → Int32) (o_s : Nat → Int32) (o_makes : Nat → Int32) (o_works : Nat → Int32) (i1 : Int32) (N : Nat) (r' : Int32) (o_falling' : Int32) (o_s' : Nat → Int32) (o_makes' : Nat → Int32) (o_works' : Nat → Int32) (hf : fX5_lacksIn N o_trades o_people o_falling o_need o_made o_skips o_tunes o_s o_makes o_works  i1 = some (r', o_falling', o_s', o_makes', o_works')) : Met l yX5_lacksIn wsX5_lacksIn rmX5_lacksIn (va_Pc [.ref a_o, .int i1] (gB (dC, dI) Z [(cC, .char), (cI, .int), (cZ, .boolean), (cW, .object RX3)] [(a_o, .inr (5, [.int o_thrown, .long o_trace, .ref a_o_text, .int o_typed, .int o_next, .int o_token, .int o_place, .int o_value, .int o_fault, .ref a_o_need, .ref a_o_made, .ref a_o_skillTold, .ref a_o_placeTold, .ref a_o_skips, .ref a_o_wheelTold, .int o_trades, .int o_people, .int o_draftTrades, .int o_draftPeople, .int o_isShut, .ref a_o_tunes, .ref a_o_s, .ref a_o_spare, .ref a_o_kept, .ref a_o_isKept, .ref a_o_makes, .ref a_o_works, .ref a_o_order, .int o_falling])), (a_o_need, .inl (cI, 12, .inl o_need)), (a_o_made, .inl (cI, 12, .inl o_made)), (a_o_skips, .inl (cI, 12, .inl o_skips)), (a_o_tunes, .inl (cI, 3, .inl o_tunes)), (a_o_s, .inl (cI, 105, .inl o_s)), (a_o_makes, .inl (cI, 6, .inl o_makes)), (a_o_works, .inl (cI, 6, .inl o_works))] sz)) (va_Qi (fun (r : Int32) (_ : Unit) => r = r') (gE (dC, dI) [(a_o, .inr (5, [.int o_thrown, .long o_trace, .ref a_o_text, .int o_typed, .int o_next, .int o_token, .int o_place, .int o_value, .int o_fault, .ref a_o_need, .ref a_o_made, .ref a_o_skillTold, .ref a_o_placeTold, .ref a_o_skips, .ref a_o_wheelTold, .int o_trades, .int o_people, .int o_draftTrades, .int o_draftPeople, .int o_isShut, .ref a_o_tunes, .ref a_o_s, .ref a_o_spare, .ref a_o_kept, .ref a_o_isKept, .ref a_o_makes, .ref a_o_works, .ref a_o_order, .int o_falling'])), (a_o_need, .inl (cI, 12, .inl o_need)), (a_o_made, .inl (cI, 12, .inl o_made)), (a_o_skips, .inl (cI, 12, .inl o_skips)), (a_o_tunes, .inl (cI, 3, .inl o_tunes)), (a_o_s, .inl (cI, 105, .inl o_s')), (a_o_makes, .inl (cI, 6, .inl o_makes')), (a_o_works, .inl (cI, 6, .inl o_works'))]) (va_A [(a_o, .inr (5, [.int o_thrown, .long o_trace, .ref a_o_text, .int o_typed, .int o_next, .int o_token, .int o_place, .int o_value, .int o_fault, .ref a_o_need, .ref a_o_made, .ref a_o_skillTold, .ref a_o_placeTold, .ref a_o_skips, .ref a_o_wheelTold, .int o_trades, .int o_people, .int o_draftTrades, .int o_draftPeople, .int o_isShut, .ref a_o_tunes, .ref a_o_s, .ref a_o_spare, .ref a_o_kept, .ref a_o_isKept, .ref a_o_makes, .ref a_o_works, .ref a_o_order, .int o_falling])), (a_o_need, .inl (cI, 12, .inl o_need)), (a_o_made, .inl (cI, 12, .inl o_made)), (a_o_skips, .inl (cI, 12, .inl o_skips)), (a_o_tunes, .inl (cI, 3, .inl o_tunes)), (a_o_s, .inl (cI, 105, .inl o_s)), (a_o_makes, .inl (cI, 6, .inl o_makes)), (a_o_works, .inl (cI, 6, .inl o_works))] sz)) 0 0 (va_A [(a_o, .inr (5, [.int o_thrown, .long o_trace, .ref a_o_text, .int o_typed, .int o_next, .int o_token, .int o_place, .int o_value, .int o_fault, .ref a_o_need, .ref a_o_made, .ref a_o_skillTold, .ref a_o_placeTold, .ref a_o_skips, .ref a_o_wheelTold, .int o_trades, .int o_people, .int o_draftTrades, .int o_draftPeople, .int o_isShut, .ref a_o_tunes, .ref a_o_s, .ref a_o_spare, .ref a_o_kept, .ref a_o_isKept, .ref a_o_makes, .ref a_o_works, .ref a_o_order, .int o_falling])), (a_o_need, .inl (cI, 12, .inl o_need)), (a_o_made, .inl (cI, 12, .inl o_made)), (a_o_skips, .inl (cI, 12, .inl o_skips)), (a_o_tunes, .inl (cI, 3, .inl o_tunes)), (a_o_s, .inl (cI, 105, .inl o_s)), (a_o_makes, .inl (cI, 6, .inl o_makes)), (a_o_works, .inl (cI, 6, .inl o_works))] sz) := by
  refine gMet (cc := cX5_lacksIn) (maxL := 5) (ret := (some .int)) (Qc := fun A => va_Qi (fun (r : Int32) (_ : Unit) => r = r') (gE (dC, dI) [(a_o, .inr (5, [.int o_thrown, .long o_trace, .ref a_o_text, .int o_typed, .int o_next, .int o_token, .int o_place, .int o_value, .int o_fault, .ref a_o_need, .ref a_o_made, .ref a_o_skillTold, .ref a_o_placeTold, .ref a_o_skips, .ref a_o_wheelTold, .int o_trades, .int o_people, .int o_draftTrades, .int o_draftPeople, .int o_isShut, .ref a_o_tunes, .ref a_o_s, .ref a_o_spare, .ref a_o_kept, .ref a_o_isKept, .ref a_o_makes, .ref a_o_works, .ref a_o_order, .int o_falling'])), (a_o_need, .inl (cI, 12, .inl o_need)), (a_o_made, .inl (cI, 12, .inl o_made)), (a_o_skips, .inl (cI, 12, .inl o_skips)), (a_o_tunes, .inl (cI, 3, .inl o_tunes)), (a_o_s, .inl (cI, 105, .inl o_s')), (a_o_makes, .inl (cI, 6, .inl o_makes')), (a_o_works, .inl (cI, 6, .inl o_works'))]) A) (by decide) rfl (Nat.le_of_ble_eq_true rfl) ?_
  intro p e s m below meth c A ls hg0 _ hsz hP hD hS hl
  have hg0 : gX p s m _ meth c cX5_lacksIn 5 (some .int) wsX5_lacksIn RX5 (dC, dI) Z [(cC, .char), (cI, .int), (cZ, .boolean), (cW, .object RX3)] A := hg0
  obtain ⟨hx, hb, hr, hml, hown, hts, hlocks, hA, hK, hN⟩ := id hg0
  subst hsz
  have hF : CallFix p m c cX5_lacksIn 5 s _ wsX5_lacksIn RX5 := ⟨hx, hb, hml, hown, hts⟩
  have hl : lv_has ls 5 [(0, .ref a_o), (1, .int i1)] := hl
  unfold fX5_lacksIn at hf
  refine lv_aload_n hx hb dX5_lacksIn_0 rfl (lv_at hl 0 rfl) ?_
  refine va_get (D := (dC, dI)) (ci := 5) (v := .ref a_o_s) (C := RX5) (T := TX5) (N := 29) hx hb hts uX5_lacksIn_X5 hown hK hP 0 rfl rfl 21 (by decide) (hts _ mX5_lacksIn_0) (fun _ h9 => h9) rfl dX5_lacksIn_1 ?_
  refine lv_iconst (v := (1 : Int32)) hx hb dX5_lacksIn_4 (by decide) ?_
  obtain ⟨h_1, hf⟩ := pgd hf
  refine va_iald hx hb hK hP 5 1 rfl rfl h_1 dX5_lacksIn_5 ?_
  refine lv_istore_n (lv' := [(2, .int (o_s (1 : Int32).toNatClampNeg)), (0, .ref a_o), (1, .int i1)]) hx hb dX5_lacksIn_6 rfl hl (by decide) rfl (fun ls hl => ?_)
  refine lv_iconst (v := (0 : Int32)) hx hb dX5_lacksIn_7 (by decide) ?_
  refine lv_istore_n (lv' := [(3, .int (0 : Int32)), (2, .int (o_s (1 : Int32).toNatClampNeg)), (0, .ref a_o), (1, .int i1)]) hx hb dX5_lacksIn_8 rfl hl (by decide) rfl (fun ls hl => ?_)
  refine lv_iconst (v := (0 : Int32)) hx hb dX5_lacksIn_9 (by decide) ?_
  refine lv_istore (lv' := [(4, .int (0 : Int32)), (3, .int (0 : Int32)), (2, .int (o_s (1 : Int32).toNatClampNeg)), (0, .ref a_o), (1, .int i1)]) hx hb dX5_lacksIn_10 hl (by decide) rfl (fun ls hl => ?_)
  obtain ⟨o_s_2, o_makes_3, o_works_4, l3_5, l4_6, hc, hf⟩ := pb5 hf
  refine wX5_lacksIn_12 hg0 a_o a_o_text a_o_need a_o_made a_o_skillTold a_o_placeTold a_o_skips a_o_wheelTold a_o_tunes a_o_s a_o_spare a_o_kept a_o_isKept a_o_makes a_o_works a_o_order o_thrown o_trace o_typed o_next o_token o_place o_value o_fault o_trades o_people o_draftTrades o_draftPeople o_isShut o_falling o_need o_made o_skips o_tunes i1 (o_s (1 : Int32).toNatClampNeg) N N o_s o_makes o_works (0 : Int32) (0 : Int32) o_s_2 o_makes_3 o_works_4 l3_5 l4_6 hc _ _ _ hP hD hS (lv_sub hl [3, 4, 2, 1, 0] rfl) (fun H locs ls hP hD hS hl => ?_)
  refine lv_aload_n hx hb dX5_lacksIn_42 rfl (lv_at hl 0 rfl) ?_
  refine lv_aload_n hx hb dX5_lacksIn_43 rfl (lv_at hl 0 rfl) ?_
  refine va_get (D := (dC, dI)) (ci := 5) (v := .ref a_o_s) (C := RX5) (T := TX5) (N := 29) hx hb hts uX5_lacksIn_X5 hown hK hP 0 rfl rfl 21 (by decide) (hts _ mX5_lacksIn_0) (fun _ h9 => h9) rfl dX5_lacksIn_44 ?_
  refine lv_iconst (v := (1 : Int32)) hx hb dX5_lacksIn_47 (by decide) ?_
  obtain ⟨h_7, hf⟩ := pgd hf
  refine va_iald hx hb hK hP 5 1 rfl rfl h_7 dX5_lacksIn_48 ?_
  refine lv_iload_n hx hb dX5_lacksIn_49 rfl (lv_at hl 1 rfl) ?_
  refine lv_isub hx hb dX5_lacksIn_50 ?_
  refine va_put (D := (dC, dI)) (ci := 5) (v := .int ((o_s_2 (1 : Int32).toNatClampNeg) - (o_s (1 : Int32).toNatClampNeg))) (ty := .int) (C := RX5) (T := TX5) (N := 29) hx hb hts uX5_lacksIn_X5 tyX5 tyX5_ok nmX5 hown hK hP hD hS 0 rfl rfl 28 (by decide) (hts _ mX5_lacksIn_1) (fun _ h9 => h9) rfl (by decide +kernel) rfl rfl (Nat.le_of_ble_eq_true rfl) dX5_lacksIn_51 (fun H locs hP hD hS => ?_)
  have hP : va_P (dC, dI) vwCl [(a_o, .inr (5, [.int o_thrown, .long o_trace, .ref a_o_text, .int o_typed, .int o_next, .int o_token, .int o_place, .int o_value, .int o_fault, .ref a_o_need, .ref a_o_made, .ref a_o_skillTold, .ref a_o_placeTold, .ref a_o_skips, .ref a_o_wheelTold, .int o_trades, .int o_people, .int o_draftTrades, .int o_draftPeople, .int o_isShut, .ref a_o_tunes, .ref a_o_s, .ref a_o_spare, .ref a_o_kept, .ref a_o_isKept, .ref a_o_makes, .ref a_o_works, .ref a_o_order, .int ((o_s_2 (1 : Int32).toNatClampNeg) - (o_s (1 : Int32).toNatClampNeg))])), (a_o_need, .inl (cI, 12, .inl o_need)), (a_o_made, .inl (cI, 12, .inl o_made)), (a_o_skips, .inl (cI, 12, .inl o_skips)), (a_o_tunes, .inl (cI, 3, .inl o_tunes)), (a_o_s, .inl (cI, 105, .inl o_s_2)), (a_o_makes, .inl (cI, 6, .inl o_makes_3)), (a_o_works, .inl (cI, 6, .inl o_works_4))] H := hP
  have hD : va_D A [(a_o, .inr (5, [.int o_thrown, .long o_trace, .ref a_o_text, .int o_typed, .int o_next, .int o_token, .int o_place, .int o_value, .int o_fault, .ref a_o_need, .ref a_o_made, .ref a_o_skillTold, .ref a_o_placeTold, .ref a_o_skips, .ref a_o_wheelTold, .int o_trades, .int o_people, .int o_draftTrades, .int o_draftPeople, .int o_isShut, .ref a_o_tunes, .ref a_o_s, .ref a_o_spare, .ref a_o_kept, .ref a_o_isKept, .ref a_o_makes, .ref a_o_works, .ref a_o_order, .int ((o_s_2 (1 : Int32).toNatClampNeg) - (o_s (1 : Int32).toNatClampNeg))])), (a_o_need, .inl (cI, 12, .inl o_need)), (a_o_made, .inl (cI, 12, .inl o_made)), (a_o_skips, .inl (cI, 12, .inl o_skips)), (a_o_tunes, .inl (cI, 3, .inl o_tunes)), (a_o_s, .inl (cI, 105, .inl o_s_2)), (a_o_makes, .inl (cI, 6, .inl o_makes_3)), (a_o_works, .inl (cI, 6, .inl o_works_4))] := hD
  refine lv_iload_n hx hb dX5_lacksIn_54 rfl (lv_at hl 2 rfl) ?_
  have q0 := Option.some.inj hf
  obtain ⟨e0, q1⟩ := Prod.mk.inj q0
  obtain ⟨e1, q2⟩ := Prod.mk.inj q1
  obtain ⟨e2, q3⟩ := Prod.mk.inj q2
  obtain ⟨e3, q4⟩ := Prod.mk.inj q3
  subst e0
  subst e1
  subst e2
  subst e3
  subst q4
  exact gRi hx hb hr hlocks hP hS dX5_lacksIn_55
abbrev rmX5_areRounds : Room := { frames := 1, cells := 0, slots := 0, locals := 22 }
set_option maxHeartbeats 4000000 in
set_option maxRecDepth 100000 in
theorem kX5_areRounds (l : Launch) (dC : Nat → ClassId) (dI : Nat → Nat → Nat) (Z : gZ) (cC cI cZ cW : ClassId)  (sz : Nat)  (i0 : Int32) (N : Nat) (r' : Int32) (hf : fX5_areRounds N   i0 = some r') : Met l yX5_areRounds wsX5_areRounds rmX5_areRounds (va_Pc [.int i0] (gB (dC, dI) Z [(cC, .char), (cI, .int), (cZ, .boolean), (cW, .object RX3)] [] sz)) (va_Qi (fun (r : Int32) (_ : Unit) => r = r') (gE (dC, dI) []) (va_A [] sz)) 0 0 (va_A [] sz) := by
  refine gMet (cc := cX5_areRounds) (maxL := 1) (ret := (some .boolean)) (Qc := fun A => va_Qi (fun (r : Int32) (_ : Unit) => r = r') (gE (dC, dI) []) A) (by decide) rfl (Nat.le_of_ble_eq_true rfl) ?_
  intro p e s m below meth c A ls hg0 _ hsz hP hD hS hl
  have hg0 : gX p s m _ meth c cX5_areRounds 1 (some .boolean) wsX5_areRounds RX5 (dC, dI) Z [(cC, .char), (cI, .int), (cZ, .boolean), (cW, .object RX3)] A := hg0
  obtain ⟨hx, hb, hr, hml, hown, hts, hlocks, hA, hK, hN⟩ := id hg0
  subst hsz
  have hF : CallFix p m c cX5_areRounds 1 s _ wsX5_areRounds RX5 := ⟨hx, hb, hml, hown, hts⟩
  have hl : lv_has ls 1 [(0, .int i0)] := hl
  unfold fX5_areRounds at hf
  refine lv_iload_n hx hb dX5_areRounds_0 rfl (lv_at hl 0 rfl) ?_
  refine lv_iconst (v := (1 : Int32)) hx hb dX5_areRounds_1 (by decide) ?_
  refine lv_bipush (v := (40 : Int32)) hx hb dX5_areRounds_2 (by decide) ?_
  obtain ⟨r_1, hc, hf⟩ := pb1 hf
  refine gCi (va_runS (As := [.int i0, .int (1 : Int32), .int (40 : Int32)]) (rest := []) hF (kX5_in l dC dI Z cC cI cZ cW  _  i0 (1 : Int32) (40 : Int32) N r_1 hc) (cwS 3 hts gX5_areRounds_X5_in rfl rfl rfl (by decide +kernel) ⟨Nat.le_of_ble_eq_true rfl, Nat.le_of_ble_eq_true rfl⟩) (gPS (wc := []) hK hN hA hS hP hD [] rfl rfl) rfl rfl hl.1 rfl (lv_room (Nat.le_of_ble_eq_true rfl)) dX5_areRounds_4 ⟨Nat.zero_le _, Nat.zero_le _⟩) hP hD hS hA [] rfl rfl rfl (fun H locs hP hD hS => ?_)
  obtain ⟨hbz, hf⟩ := pgb hf
  have q0 := Option.some.inj hf
  subst q0
  exact gRz hx hb hr (nar_b hbz) hlocks hP hS dX5_areRounds_7
abbrev rmX5_swaps : Room := { frames := 0, cells := 0, slots := 0, locals := 0 }
set_option maxRecDepth 20000 in
theorem uX5_swaps_X5 : ∀ w ∈ wsX50, w ∈ wsX5_swaps := by decide +kernel
set_option maxRecDepth 20000 in
theorem mX5_swaps_0 : (Cond.fieldLink RX5 53 "TradeWheelModel" "order" "[I" : Cond) ∈ wsX5_swaps := by decide +kernel
set_option maxHeartbeats 4000000 in
set_option maxRecDepth 100000 in
theorem kX5_swaps (l : Launch) (dC : Nat → ClassId) (dI : Nat → Nat → Nat) (Z : gZ) (cC cI cZ cW : ClassId) (a_o a_o_text a_o_need a_o_made a_o_skillTold a_o_placeTold a_o_skips a_o_wheelTold a_o_tunes a_o_s a_o_spare a_o_kept a_o_isKept a_o_makes a_o_works a_o_order : Nat) (sz : Nat) (o_thrown : Int32) (o_trace : Int64) (o_typed : Int32) (o_next : Int32) (o_token : Int32) (o_place : Int32) (o_value : Int32) (o_fault : Int32) (o_trades : Int32) (o_people : Int32) (o_draftTrades : Int32) (o_draftPeople : Int32) (o_isShut : Int32) (o_falling : Int32) (o_order : Nat → Int32) (i1 : Int32) (i2 : Int32) (N : Nat) (o_order' : Nat → Int32) (hf : fX5_swaps N o_order  i1 i2 = some o_order') : Met l yX5_swaps wsX5_swaps rmX5_swaps (va_Pc [.ref a_o, .int i1, .int i2] (gB (dC, dI) Z [(cC, .char), (cI, .int), (cZ, .boolean), (cW, .object RX3)] [(a_o, .inr (5, [.int o_thrown, .long o_trace, .ref a_o_text, .int o_typed, .int o_next, .int o_token, .int o_place, .int o_value, .int o_fault, .ref a_o_need, .ref a_o_made, .ref a_o_skillTold, .ref a_o_placeTold, .ref a_o_skips, .ref a_o_wheelTold, .int o_trades, .int o_people, .int o_draftTrades, .int o_draftPeople, .int o_isShut, .ref a_o_tunes, .ref a_o_s, .ref a_o_spare, .ref a_o_kept, .ref a_o_isKept, .ref a_o_makes, .ref a_o_works, .ref a_o_order, .int o_falling])), (a_o_order, .inl (cI, 6, .inl o_order))] sz)) (va_Qv (fun (_ : Unit) => True) (gE (dC, dI) [(a_o, .inr (5, [.int o_thrown, .long o_trace, .ref a_o_text, .int o_typed, .int o_next, .int o_token, .int o_place, .int o_value, .int o_fault, .ref a_o_need, .ref a_o_made, .ref a_o_skillTold, .ref a_o_placeTold, .ref a_o_skips, .ref a_o_wheelTold, .int o_trades, .int o_people, .int o_draftTrades, .int o_draftPeople, .int o_isShut, .ref a_o_tunes, .ref a_o_s, .ref a_o_spare, .ref a_o_kept, .ref a_o_isKept, .ref a_o_makes, .ref a_o_works, .ref a_o_order, .int o_falling])), (a_o_order, .inl (cI, 6, .inl o_order'))]) (va_A [(a_o, .inr (5, [.int o_thrown, .long o_trace, .ref a_o_text, .int o_typed, .int o_next, .int o_token, .int o_place, .int o_value, .int o_fault, .ref a_o_need, .ref a_o_made, .ref a_o_skillTold, .ref a_o_placeTold, .ref a_o_skips, .ref a_o_wheelTold, .int o_trades, .int o_people, .int o_draftTrades, .int o_draftPeople, .int o_isShut, .ref a_o_tunes, .ref a_o_s, .ref a_o_spare, .ref a_o_kept, .ref a_o_isKept, .ref a_o_makes, .ref a_o_works, .ref a_o_order, .int o_falling])), (a_o_order, .inl (cI, 6, .inl o_order))] sz)) 0 0 (va_A [(a_o, .inr (5, [.int o_thrown, .long o_trace, .ref a_o_text, .int o_typed, .int o_next, .int o_token, .int o_place, .int o_value, .int o_fault, .ref a_o_need, .ref a_o_made, .ref a_o_skillTold, .ref a_o_placeTold, .ref a_o_skips, .ref a_o_wheelTold, .int o_trades, .int o_people, .int o_draftTrades, .int o_draftPeople, .int o_isShut, .ref a_o_tunes, .ref a_o_s, .ref a_o_spare, .ref a_o_kept, .ref a_o_isKept, .ref a_o_makes, .ref a_o_works, .ref a_o_order, .int o_falling])), (a_o_order, .inl (cI, 6, .inl o_order))] sz) := by
  refine gMet (cc := cX5_swaps) (maxL := 4) (ret := none) (Qc := fun A => va_Qv (fun (_ : Unit) => True) (gE (dC, dI) [(a_o, .inr (5, [.int o_thrown, .long o_trace, .ref a_o_text, .int o_typed, .int o_next, .int o_token, .int o_place, .int o_value, .int o_fault, .ref a_o_need, .ref a_o_made, .ref a_o_skillTold, .ref a_o_placeTold, .ref a_o_skips, .ref a_o_wheelTold, .int o_trades, .int o_people, .int o_draftTrades, .int o_draftPeople, .int o_isShut, .ref a_o_tunes, .ref a_o_s, .ref a_o_spare, .ref a_o_kept, .ref a_o_isKept, .ref a_o_makes, .ref a_o_works, .ref a_o_order, .int o_falling])), (a_o_order, .inl (cI, 6, .inl o_order'))]) A) (by decide) rfl (Nat.le_of_ble_eq_true rfl) ?_
  intro p e s m below meth c A ls hg0 _ hsz hP hD hS hl
  have hg0 : gX p s m _ meth c cX5_swaps 4 none wsX5_swaps RX5 (dC, dI) Z [(cC, .char), (cI, .int), (cZ, .boolean), (cW, .object RX3)] A := hg0
  obtain ⟨hx, hb, hr, hml, hown, hts, hlocks, hA, hK, hN⟩ := id hg0
  subst hsz
  have hF : CallFix p m c cX5_swaps 4 s _ wsX5_swaps RX5 := ⟨hx, hb, hml, hown, hts⟩
  have hl : lv_has ls 4 [(0, .ref a_o), (1, .int i1), (2, .int i2)] := hl
  unfold fX5_swaps at hf
  refine lv_aload_n hx hb dX5_swaps_0 rfl (lv_at hl 0 rfl) ?_
  refine va_get (D := (dC, dI)) (ci := 5) (v := .ref a_o_order) (C := RX5) (T := TX5) (N := 29) hx hb hts uX5_swaps_X5 hown hK hP 0 rfl rfl 27 (by decide) (hts _ mX5_swaps_0) (fun _ h9 => h9) rfl dX5_swaps_1 ?_
  refine lv_iload_n hx hb dX5_swaps_4 rfl (lv_at hl 1 rfl) ?_
  obtain ⟨h_1, hf⟩ := pgd hf
  refine va_iald hx hb hK hP 1 1 rfl rfl h_1 dX5_swaps_5 ?_
  refine lv_istore_n (lv' := [(3, .int (o_order i1.toNatClampNeg)), (0, .ref a_o), (1, .int i1), (2, .int i2)]) hx hb dX5_swaps_6 rfl hl (by decide) rfl (fun ls hl => ?_)
  refine lv_aload_n hx hb dX5_swaps_7 rfl (lv_at hl 1 rfl) ?_
  refine va_get (D := (dC, dI)) (ci := 5) (v := .ref a_o_order) (C := RX5) (T := TX5) (N := 29) hx hb hts uX5_swaps_X5 hown hK hP 0 rfl rfl 27 (by decide) (hts _ mX5_swaps_0) (fun _ h9 => h9) rfl dX5_swaps_8 ?_
  refine lv_iload_n hx hb dX5_swaps_11 rfl (lv_at hl 2 rfl) ?_
  refine lv_aload_n hx hb dX5_swaps_12 rfl (lv_at hl 1 rfl) ?_
  refine va_get (D := (dC, dI)) (ci := 5) (v := .ref a_o_order) (C := RX5) (T := TX5) (N := 29) hx hb hts uX5_swaps_X5 hown hK hP 0 rfl rfl 27 (by decide) (hts _ mX5_swaps_0) (fun _ h9 => h9) rfl dX5_swaps_13 ?_
  refine lv_iload_n hx hb dX5_swaps_16 rfl (lv_at hl 3 rfl) ?_
  obtain ⟨h_2, hf⟩ := pgd hf
  refine va_iald hx hb hK hP 1 1 rfl rfl h_2 dX5_swaps_17 ?_
  obtain ⟨h_3, hf⟩ := pgd hf
  refine va_iast hx hb hK hP hD hS 1 1 rfl rfl h_3 dX5_swaps_18 (fun H locs hP hD hS => ?_)
  have hP : va_P (dC, dI) vwCl [(a_o, .inr (5, [.int o_thrown, .long o_trace, .ref a_o_text, .int o_typed, .int o_next, .int o_token, .int o_place, .int o_value, .int o_fault, .ref a_o_need, .ref a_o_made, .ref a_o_skillTold, .ref a_o_placeTold, .ref a_o_skips, .ref a_o_wheelTold, .int o_trades, .int o_people, .int o_draftTrades, .int o_draftPeople, .int o_isShut, .ref a_o_tunes, .ref a_o_s, .ref a_o_spare, .ref a_o_kept, .ref a_o_isKept, .ref a_o_makes, .ref a_o_works, .ref a_o_order, .int o_falling])), (a_o_order, .inl (cI, 6, .inl (upd o_order i1.toNatClampNeg (o_order i2.toNatClampNeg))))] H := hP
  have hD : va_D A [(a_o, .inr (5, [.int o_thrown, .long o_trace, .ref a_o_text, .int o_typed, .int o_next, .int o_token, .int o_place, .int o_value, .int o_fault, .ref a_o_need, .ref a_o_made, .ref a_o_skillTold, .ref a_o_placeTold, .ref a_o_skips, .ref a_o_wheelTold, .int o_trades, .int o_people, .int o_draftTrades, .int o_draftPeople, .int o_isShut, .ref a_o_tunes, .ref a_o_s, .ref a_o_spare, .ref a_o_kept, .ref a_o_isKept, .ref a_o_makes, .ref a_o_works, .ref a_o_order, .int o_falling])), (a_o_order, .inl (cI, 6, .inl (upd o_order i1.toNatClampNeg (o_order i2.toNatClampNeg))))] := hD
  refine lv_aload_n hx hb dX5_swaps_19 rfl (lv_at hl 1 rfl) ?_
  refine va_get (D := (dC, dI)) (ci := 5) (v := .ref a_o_order) (C := RX5) (T := TX5) (N := 29) hx hb hts uX5_swaps_X5 hown hK hP 0 rfl rfl 27 (by decide) (hts _ mX5_swaps_0) (fun _ h9 => h9) rfl dX5_swaps_20 ?_
  refine lv_iload_n hx hb dX5_swaps_23 rfl (lv_at hl 3 rfl) ?_
  refine lv_iload_n hx hb dX5_swaps_24 rfl (lv_at hl 0 rfl) ?_
  obtain ⟨h_4, hf⟩ := pgd hf
  refine va_iast hx hb hK hP hD hS 1 1 rfl rfl h_4 dX5_swaps_25 (fun H locs hP hD hS => ?_)
  have hP : va_P (dC, dI) vwCl [(a_o, .inr (5, [.int o_thrown, .long o_trace, .ref a_o_text, .int o_typed, .int o_next, .int o_token, .int o_place, .int o_value, .int o_fault, .ref a_o_need, .ref a_o_made, .ref a_o_skillTold, .ref a_o_placeTold, .ref a_o_skips, .ref a_o_wheelTold, .int o_trades, .int o_people, .int o_draftTrades, .int o_draftPeople, .int o_isShut, .ref a_o_tunes, .ref a_o_s, .ref a_o_spare, .ref a_o_kept, .ref a_o_isKept, .ref a_o_makes, .ref a_o_works, .ref a_o_order, .int o_falling])), (a_o_order, .inl (cI, 6, .inl (upd (upd o_order i1.toNatClampNeg (o_order i2.toNatClampNeg)) i2.toNatClampNeg (o_order i1.toNatClampNeg))))] H := hP
  have hD : va_D A [(a_o, .inr (5, [.int o_thrown, .long o_trace, .ref a_o_text, .int o_typed, .int o_next, .int o_token, .int o_place, .int o_value, .int o_fault, .ref a_o_need, .ref a_o_made, .ref a_o_skillTold, .ref a_o_placeTold, .ref a_o_skips, .ref a_o_wheelTold, .int o_trades, .int o_people, .int o_draftTrades, .int o_draftPeople, .int o_isShut, .ref a_o_tunes, .ref a_o_s, .ref a_o_spare, .ref a_o_kept, .ref a_o_isKept, .ref a_o_makes, .ref a_o_works, .ref a_o_order, .int o_falling])), (a_o_order, .inl (cI, 6, .inl (upd (upd o_order i1.toNatClampNeg (o_order i2.toNatClampNeg)) i2.toNatClampNeg (o_order i1.toNatClampNeg))))] := hD
  have q0 := Option.some.inj hf
  subst q0
  exact gRv hx hb hr hlocks hP hS dX5_swaps_26
abbrev rmX5_goesOn : Room := { frames := 1, cells := 0, slots := 0, locals := 23 }
set_option maxRecDepth 20000 in
theorem uX5_goesOn_X5 : ∀ w ∈ wsX50, w ∈ wsX5_goesOn := by decide +kernel
set_option maxRecDepth 20000 in
theorem mX5_goesOn_0 : (Cond.fieldLink RX5 137 "TradeWheelModel" "trades" "I" : Cond) ∈ wsX5_goesOn := by decide +kernel
set_option maxRecDepth 20000 in
theorem mX5_goesOn_1 : (Cond.fieldLink RX5 53 "TradeWheelModel" "order" "[I" : Cond) ∈ wsX5_goesOn := by decide +kernel
set_option maxHeartbeats 4000000 in
set_option maxRecDepth 100000 in
theorem wX5_goesOn_7 {p : Program} {l : Launch} {e : Env} {s : State} {m : MethodId} {args : Array Value} {below : List Frame} {meth : Method} {c : Code} {Q : State → Prop} {A : Nat → Prop} {dC : Nat → ClassId} {dI : Nat → Nat → Nat} {Z : gZ} {cC cI cZ cW : ClassId} (hg0 : gX p s m args meth c cX5_goesOn 5 (some .boolean) wsX5_goesOn RX5 (dC, dI) Z [(cC, .char), (cI, .int), (cZ, .boolean), (cW, .object RX3)] A) (a_o a_o_text a_o_need a_o_made a_o_skillTold a_o_placeTold a_o_skips a_o_wheelTold a_o_tunes a_o_s a_o_spare a_o_kept a_o_isKept a_o_makes a_o_works a_o_order : Nat) (o_thrown : Int32) (o_trace : Int64) (o_typed : Int32) (o_next : Int32) (o_token : Int32) (o_place : Int32) (o_value : Int32) (o_fault : Int32) (o_trades : Int32) (o_people : Int32) (o_draftTrades : Int32) (o_draftPeople : Int32) (o_isShut : Int32) (o_falling : Int32) (o_order : Nat → Int32)  (N : Nat) : ∀ (n : Nat) (l1 : Int32) (l1' : Int32), fX5_goesOn_7 N o_order n l1 = some l1' → ∀ (H : Heap) (locs : List Loc) (ls : Array Slot), va_P (dC, dI) vwCl [(a_o, .inr (5, [.int o_thrown, .long o_trace, .ref a_o_text, .int o_typed, .int o_next, .int o_token, .int o_place, .int o_value, .int o_fault, .ref a_o_need, .ref a_o_made, .ref a_o_skillTold, .ref a_o_placeTold, .ref a_o_skips, .ref a_o_wheelTold, .int o_trades, .int o_people, .int o_draftTrades, .int o_draftPeople, .int o_isShut, .ref a_o_tunes, .ref a_o_s, .ref a_o_spare, .ref a_o_kept, .ref a_o_isKept, .ref a_o_makes, .ref a_o_works, .ref a_o_order, .int o_falling])), (a_o_order, .inl (cI, 6, .inl o_order))] H → va_D A [(a_o, .inr (5, [.int o_thrown, .long o_trace, .ref a_o_text, .int o_typed, .int o_next, .int o_token, .int o_place, .int o_value, .int o_fault, .ref a_o_need, .ref a_o_made, .ref a_o_skillTold, .ref a_o_placeTold, .ref a_o_skips, .ref a_o_wheelTold, .int o_trades, .int o_people, .int o_draftTrades, .int o_draftPeople, .int o_isShut, .ref a_o_tunes, .ref a_o_s, .ref a_o_spare, .ref a_o_kept, .ref a_o_isKept, .ref a_o_makes, .ref a_o_works, .ref a_o_order, .int o_falling])), (a_o_order, .inl (cI, 6, .inl o_order))] → va_S A s.heap H locs → lv_has ls 5 [(0, .ref a_o), (1, .int l1)] → (∀ (H : Heap) (locs : List Loc) (ls : Array Slot), va_P (dC, dI) vwCl [(a_o, .inr (5, [.int o_thrown, .long o_trace, .ref a_o_text, .int o_typed, .int o_next, .int o_token, .int o_place, .int o_value, .int o_fault, .ref a_o_need, .ref a_o_made, .ref a_o_skillTold, .ref a_o_placeTold, .ref a_o_skips, .ref a_o_wheelTold, .int o_trades, .int o_people, .int o_draftTrades, .int o_draftPeople, .int o_isShut, .ref a_o_tunes, .ref a_o_s, .ref a_o_spare, .ref a_o_kept, .ref a_o_isKept, .ref a_o_makes, .ref a_o_works, .ref a_o_order, .int o_falling])), (a_o_order, .inl (cI, 6, .inl o_order))] H → va_D A [(a_o, .inr (5, [.int o_thrown, .long o_trace, .ref a_o_text, .int o_typed, .int o_next, .int o_token, .int o_place, .int o_value, .int o_fault, .ref a_o_need, .ref a_o_made, .ref a_o_skillTold, .ref a_o_placeTold, .ref a_o_skips, .ref a_o_wheelTold, .int o_trades, .int o_people, .int o_draftTrades, .int o_draftPeople, .int o_isShut, .ref a_o_tunes, .ref a_o_s, .ref a_o_spare, .ref a_o_kept, .ref a_o_isKept, .ref a_o_makes, .ref a_o_works, .ref a_o_order, .int o_falling])), (a_o_order, .inl (cI, 6, .inl o_order))] → va_S A s.heap H locs → lv_has ls 5 [(0, .ref a_o), (1, .int l1')] → W p l e (headSpec wsX5_goesOn rmX5_goesOn).room s m args below meth c H locs 0 0 Q (F0 m 34 ls [])) → W p l e (headSpec wsX5_goesOn rmX5_goesOn).room s m args below meth c H locs 0 0 Q (F0 m 7 ls []) := by
  obtain ⟨hx, hb, hr, hml, hown, hts, hlocks, hA, hK, hN⟩ := id hg0
  have hF : CallFix p m c cX5_goesOn 5 s args wsX5_goesOn RX5 := ⟨hx, hb, hml, hown, hts⟩
  intro n
  induction n with
  | zero =>
    intro l1 l1' hf
    have hf := fX5_goesOn_7_0.symm.trans hf
    cases hf
  | succ n ih =>
    intro l1 l1' hf H locs ls hP hD hS hl kx
    have hf := fX5_goesOn_7_s.symm.trans hf
    refine lv_iload_n hx hb dX5_goesOn_7 rfl (lv_at hl 1 rfl) ?_
    refine lv_if_lt (tgt := 34) hx hb dX5_goesOn_8 (by decide) (fun c_1 => ?_) (fun c_1 => ?_)
    · have hf := pit hf c_1
      have q0 := Option.some.inj hf
      subst q0
      exact kx _ _ _ hP hD hS (lv_sub hl [0, 1] rfl)
    · have hf := pif hf c_1
      refine lv_aload_n hx hb dX5_goesOn_11 rfl (lv_at hl 0 rfl) ?_
      refine va_get (D := (dC, dI)) (ci := 5) (v := .ref a_o_order) (C := RX5) (T := TX5) (N := 29) hx hb hts uX5_goesOn_X5 hown hK hP 0 rfl rfl 27 (by decide) (hts _ mX5_goesOn_1) (fun _ h9 => h9) rfl dX5_goesOn_12 ?_
      refine lv_iload_n hx hb dX5_goesOn_15 rfl (lv_at hl 1 rfl) ?_
      obtain ⟨h_2, hf⟩ := pgd hf
      refine va_iald hx hb hK hP 1 1 rfl rfl h_2 dX5_goesOn_16 ?_
      refine lv_aload_n hx hb dX5_goesOn_17 rfl (lv_at hl 0 rfl) ?_
      refine va_get (D := (dC, dI)) (ci := 5) (v := .ref a_o_order) (C := RX5) (T := TX5) (N := 29) hx hb hts uX5_goesOn_X5 hown hK hP 0 rfl rfl 27 (by decide) (hts _ mX5_goesOn_1) (fun _ h9 => h9) rfl dX5_goesOn_18 ?_
      refine lv_iload_n hx hb dX5_goesOn_21 rfl (lv_at hl 1 rfl) ?_
      refine lv_iconst (v := (1 : Int32)) hx hb dX5_goesOn_22 (by decide) ?_
      refine lv_iadd hx hb dX5_goesOn_23 ?_
      obtain ⟨h_3, hf⟩ := pgd hf
      refine va_iald hx hb hK hP 1 1 rfl rfl h_3 dX5_goesOn_24 ?_
      refine lv_icmp_le (tgt := 34) hx hb dX5_goesOn_25 (by decide) (fun c_4 => ?_) (fun c_4 => ?_)
      · have hf := pit hf c_4
        have q0 := Option.some.inj hf
        subst q0
        exact kx _ _ _ hP hD hS (lv_sub hl [0, 1] rfl)
      · have hf := pif hf c_4
        refine lv_iinc (v := (l1 + (-1 : Int32))) (lv' := [(1, .int (l1 + (-1 : Int32))), (0, .ref a_o)]) hx hb dX5_goesOn_28 hl (k := 1) rfl rfl (by decide) rfl (fun ls hl => ?_)
        refine lv_goto (tgt := 7) hx hb dX5_goesOn_31 (by decide) ?_
        exact ih _ _ hf _ _ _ hP hD hS (lv_sub hl [1, 0] rfl) kx
set_option maxHeartbeats 4000000 in
set_option maxRecDepth 100000 in
theorem wX5_goesOn_47 {p : Program} {l : Launch} {e : Env} {s : State} {m : MethodId} {args : Array Value} {below : List Frame} {meth : Method} {c : Code} {Q : State → Prop} {A : Nat → Prop} {dC : Nat → ClassId} {dI : Nat → Nat → Nat} {Z : gZ} {cC cI cZ cW : ClassId} (hg0 : gX p s m args meth c cX5_goesOn 5 (some .boolean) wsX5_goesOn RX5 (dC, dI) Z [(cC, .char), (cI, .int), (cZ, .boolean), (cW, .object RX3)] A) (a_o a_o_text a_o_need a_o_made a_o_skillTold a_o_placeTold a_o_skips a_o_wheelTold a_o_tunes a_o_s a_o_spare a_o_kept a_o_isKept a_o_makes a_o_works a_o_order : Nat) (o_thrown : Int32) (o_trace : Int64) (o_typed : Int32) (o_next : Int32) (o_token : Int32) (o_place : Int32) (o_value : Int32) (o_fault : Int32) (o_trades : Int32) (o_people : Int32) (o_draftTrades : Int32) (o_draftPeople : Int32) (o_isShut : Int32) (o_falling : Int32) (o_order : Nat → Int32) (l1 : Int32) (N : Nat) : ∀ (n : Nat) (l2 : Int32) (l2' : Int32), fX5_goesOn_47 N o_order l1 n l2 = some l2' → ∀ (H : Heap) (locs : List Loc) (ls : Array Slot), va_P (dC, dI) vwCl [(a_o, .inr (5, [.int o_thrown, .long o_trace, .ref a_o_text, .int o_typed, .int o_next, .int o_token, .int o_place, .int o_value, .int o_fault, .ref a_o_need, .ref a_o_made, .ref a_o_skillTold, .ref a_o_placeTold, .ref a_o_skips, .ref a_o_wheelTold, .int o_trades, .int o_people, .int o_draftTrades, .int o_draftPeople, .int o_isShut, .ref a_o_tunes, .ref a_o_s, .ref a_o_spare, .ref a_o_kept, .ref a_o_isKept, .ref a_o_makes, .ref a_o_works, .ref a_o_order, .int o_falling])), (a_o_order, .inl (cI, 6, .inl o_order))] H → va_D A [(a_o, .inr (5, [.int o_thrown, .long o_trace, .ref a_o_text, .int o_typed, .int o_next, .int o_token, .int o_place, .int o_value, .int o_fault, .ref a_o_need, .ref a_o_made, .ref a_o_skillTold, .ref a_o_placeTold, .ref a_o_skips, .ref a_o_wheelTold, .int o_trades, .int o_people, .int o_draftTrades, .int o_draftPeople, .int o_isShut, .ref a_o_tunes, .ref a_o_s, .ref a_o_spare, .ref a_o_kept, .ref a_o_isKept, .ref a_o_makes, .ref a_o_works, .ref a_o_order, .int o_falling])), (a_o_order, .inl (cI, 6, .inl o_order))] → va_S A s.heap H locs → lv_has ls 5 [(0, .ref a_o), (1, .int l1), (2, .int l2)] → (∀ (H : Heap) (locs : List Loc) (ls : Array Slot), va_P (dC, dI) vwCl [(a_o, .inr (5, [.int o_thrown, .long o_trace, .ref a_o_text, .int o_typed, .int o_next, .int o_token, .int o_place, .int o_value, .int o_fault, .ref a_o_need, .ref a_o_made, .ref a_o_skillTold, .ref a_o_placeTold, .ref a_o_skips, .ref a_o_wheelTold, .int o_trades, .int o_people, .int o_draftTrades, .int o_draftPeople, .int o_isShut, .ref a_o_tunes, .ref a_o_s, .ref a_o_spare, .ref a_o_kept, .ref a_o_isKept, .ref a_o_makes, .ref a_o_works, .ref a_o_order, .int o_falling])), (a_o_order, .inl (cI, 6, .inl o_order))] H → va_D A [(a_o, .inr (5, [.int o_thrown, .long o_trace, .ref a_o_text, .int o_typed, .int o_next, .int o_token, .int o_place, .int o_value, .int o_fault, .ref a_o_need, .ref a_o_made, .ref a_o_skillTold, .ref a_o_placeTold, .ref a_o_skips, .ref a_o_wheelTold, .int o_trades, .int o_people, .int o_draftTrades, .int o_draftPeople, .int o_isShut, .ref a_o_tunes, .ref a_o_s, .ref a_o_spare, .ref a_o_kept, .ref a_o_isKept, .ref a_o_makes, .ref a_o_works, .ref a_o_order, .int o_falling])), (a_o_order, .inl (cI, 6, .inl o_order))] → va_S A s.heap H locs → lv_has ls 5 [(0, .ref a_o), (1, .int l1), (2, .int l2')] → W p l e (headSpec wsX5_goesOn rmX5_goesOn).room s m args below meth c H locs 0 0 Q (F0 m 68 ls [])) → W p l e (headSpec wsX5_goesOn rmX5_goesOn).room s m args below meth c H locs 0 0 Q (F0 m 47 ls []) := by
  obtain ⟨hx, hb, hr, hml, hown, hts, hlocks, hA, hK, hN⟩ := id hg0
  have hF : CallFix p m c cX5_goesOn 5 s args wsX5_goesOn RX5 := ⟨hx, hb, hml, hown, hts⟩
  intro n
  induction n with
  | zero =>
    intro l2 l2' hf
    have hf := fX5_goesOn_47_0.symm.trans hf
    cases hf
  | succ n ih =>
    intro l2 l2' hf H locs ls hP hD hS hl kx
    have hf := fX5_goesOn_47_s.symm.trans hf
    refine lv_aload_n hx hb dX5_goesOn_47 rfl (lv_at hl 0 rfl) ?_
    refine va_get (D := (dC, dI)) (ci := 5) (v := .ref a_o_order) (C := RX5) (T := TX5) (N := 29) hx hb hts uX5_goesOn_X5 hown hK hP 0 rfl rfl 27 (by decide) (hts _ mX5_goesOn_1) (fun _ h9 => h9) rfl dX5_goesOn_48 ?_
    refine lv_iload_n hx hb dX5_goesOn_51 rfl (lv_at hl 2 rfl) ?_
    obtain ⟨h_1, hf⟩ := pgd hf
    refine va_iald hx hb hK hP 1 1 rfl rfl h_1 dX5_goesOn_52 ?_
    refine lv_aload_n hx hb dX5_goesOn_53 rfl (lv_at hl 0 rfl) ?_
    refine va_get (D := (dC, dI)) (ci := 5) (v := .ref a_o_order) (C := RX5) (T := TX5) (N := 29) hx hb hts uX5_goesOn_X5 hown hK hP 0 rfl rfl 27 (by decide) (hts _ mX5_goesOn_1) (fun _ h9 => h9) rfl dX5_goesOn_54 ?_
    refine lv_iload_n hx hb dX5_goesOn_57 rfl (lv_at hl 1 rfl) ?_
    obtain ⟨h_2, hf⟩ := pgd hf
    refine va_iald hx hb hK hP 1 1 rfl rfl h_2 dX5_goesOn_58 ?_
    refine lv_icmp_ge (tgt := 68) hx hb dX5_goesOn_59 (by decide) (fun c_3 => ?_) (fun c_3 => ?_)
    · have hf := pit hf c_3
      have q0 := Option.some.inj hf
      subst q0
      exact kx _ _ _ hP hD hS (lv_sub hl [0, 1, 2] rfl)
    · have hf := pif hf c_3
      refine lv_iinc (v := (l2 + (-1 : Int32))) (lv' := [(2, .int (l2 + (-1 : Int32))), (0, .ref a_o), (1, .int l1)]) hx hb dX5_goesOn_62 hl (k := 2) rfl rfl (by decide) rfl (fun ls hl => ?_)
      refine lv_goto (tgt := 47) hx hb dX5_goesOn_65 (by decide) ?_
      exact ih _ _ hf _ _ _ hP hD hS (lv_sub hl [1, 2, 0] rfl) kx
set_option maxHeartbeats 4000000 in
set_option maxRecDepth 100000 in
theorem wX5_goesOn_86 {p : Program} {l : Launch} {e : Env} {s : State} {m : MethodId} {args : Array Value} {below : List Frame} {meth : Method} {c : Code} {Q : State → Prop} {A : Nat → Prop} {dC : Nat → ClassId} {dI : Nat → Nat → Nat} {Z : gZ} {cC cI cZ cW : ClassId} (hg0 : gX p s m args meth c cX5_goesOn 5 (some .boolean) wsX5_goesOn RX5 (dC, dI) Z [(cC, .char), (cI, .int), (cZ, .boolean), (cW, .object RX3)] A) (a_o a_o_text a_o_need a_o_made a_o_skillTold a_o_placeTold a_o_skips a_o_wheelTold a_o_tunes a_o_s a_o_spare a_o_kept a_o_isKept a_o_makes a_o_works a_o_order : Nat) (o_thrown : Int32) (o_trace : Int64) (o_typed : Int32) (o_next : Int32) (o_token : Int32) (o_place : Int32) (o_value : Int32) (o_fault : Int32) (o_trades : Int32) (o_people : Int32) (o_draftTrades : Int32) (o_draftPeople : Int32) (o_isShut : Int32) (o_falling : Int32)  (N : Nat) : ∀ (n : Nat) (o_order : Nat → Int32) (l3 : Int32) (l4 : Int32) (o_order' : Nat → Int32) (l3' : Int32) (l4' : Int32), fX5_goesOn_86 N  n o_order l3 l4 = some (o_order', l3', l4') → ∀ (H : Heap) (locs : List Loc) (ls : Array Slot), va_P (dC, dI) vwCl [(a_o, .inr (5, [.int o_thrown, .long o_trace, .ref a_o_text, .int o_typed, .int o_next, .int o_token, .int o_place, .int o_value, .int o_fault, .ref a_o_need, .ref a_o_made, .ref a_o_skillTold, .ref a_o_placeTold, .ref a_o_skips, .ref a_o_wheelTold, .int o_trades, .int o_people, .int o_draftTrades, .int o_draftPeople, .int o_isShut, .ref a_o_tunes, .ref a_o_s, .ref a_o_spare, .ref a_o_kept, .ref a_o_isKept, .ref a_o_makes, .ref a_o_works, .ref a_o_order, .int o_falling])), (a_o_order, .inl (cI, 6, .inl o_order))] H → va_D A [(a_o, .inr (5, [.int o_thrown, .long o_trace, .ref a_o_text, .int o_typed, .int o_next, .int o_token, .int o_place, .int o_value, .int o_fault, .ref a_o_need, .ref a_o_made, .ref a_o_skillTold, .ref a_o_placeTold, .ref a_o_skips, .ref a_o_wheelTold, .int o_trades, .int o_people, .int o_draftTrades, .int o_draftPeople, .int o_isShut, .ref a_o_tunes, .ref a_o_s, .ref a_o_spare, .ref a_o_kept, .ref a_o_isKept, .ref a_o_makes, .ref a_o_works, .ref a_o_order, .int o_falling])), (a_o_order, .inl (cI, 6, .inl o_order))] → va_S A s.heap H locs → lv_has ls 5 [(0, .ref a_o), (3, .int l3), (4, .int l4)] → (∀ (H : Heap) (locs : List Loc) (ls : Array Slot), va_P (dC, dI) vwCl [(a_o, .inr (5, [.int o_thrown, .long o_trace, .ref a_o_text, .int o_typed, .int o_next, .int o_token, .int o_place, .int o_value, .int o_fault, .ref a_o_need, .ref a_o_made, .ref a_o_skillTold, .ref a_o_placeTold, .ref a_o_skips, .ref a_o_wheelTold, .int o_trades, .int o_people, .int o_draftTrades, .int o_draftPeople, .int o_isShut, .ref a_o_tunes, .ref a_o_s, .ref a_o_spare, .ref a_o_kept, .ref a_o_isKept, .ref a_o_makes, .ref a_o_works, .ref a_o_order, .int o_falling])), (a_o_order, .inl (cI, 6, .inl o_order'))] H → va_D A [(a_o, .inr (5, [.int o_thrown, .long o_trace, .ref a_o_text, .int o_typed, .int o_next, .int o_token, .int o_place, .int o_value, .int o_fault, .ref a_o_need, .ref a_o_made, .ref a_o_skillTold, .ref a_o_placeTold, .ref a_o_skips, .ref a_o_wheelTold, .int o_trades, .int o_people, .int o_draftTrades, .int o_draftPeople, .int o_isShut, .ref a_o_tunes, .ref a_o_s, .ref a_o_spare, .ref a_o_kept, .ref a_o_isKept, .ref a_o_makes, .ref a_o_works, .ref a_o_order, .int o_falling])), (a_o_order, .inl (cI, 6, .inl o_order'))] → va_S A s.heap H locs → lv_has ls 5 [] → W p l e (headSpec wsX5_goesOn rmX5_goesOn).room s m args below meth c H locs 0 0 Q (F0 m 108 ls [])) → W p l e (headSpec wsX5_goesOn rmX5_goesOn).room s m args below meth c H locs 0 0 Q (F0 m 86 ls []) := by
  obtain ⟨hx, hb, hr, hml, hown, hts, hlocks, hA, hK, hN⟩ := id hg0
  have hF : CallFix p m c cX5_goesOn 5 s args wsX5_goesOn RX5 := ⟨hx, hb, hml, hown, hts⟩
  intro n
  induction n with
  | zero =>
    intro o_order l3 l4 o_order' l3' l4' hf
    have hf := fX5_goesOn_86_0.symm.trans hf
    cases hf
  | succ n ih =>
    intro o_order l3 l4 o_order' l3' l4' hf H locs ls hP hD hS hl kx
    have hf := fX5_goesOn_86_s.symm.trans hf
    refine lv_iload_n hx hb dX5_goesOn_86 rfl (lv_at hl 1 rfl) ?_
    refine lv_iload hx hb dX5_goesOn_87 (lv_at hl 2 rfl) ?_
    refine lv_icmp_ge (tgt := 108) hx hb dX5_goesOn_89 (by decide) (fun c_1 => ?_) (fun c_1 => ?_)
    · have hf := pit hf c_1
      have q0 := Option.some.inj hf
      obtain ⟨e0, q1⟩ := Prod.mk.inj q0
      obtain ⟨e1, q2⟩ := Prod.mk.inj q1
      subst e0
      subst e1
      subst q2
      exact kx _ _ _ hP hD hS (lv_sub hl [] rfl)
    · have hf := pif hf c_1
      refine lv_aload_n hx hb dX5_goesOn_92 rfl (lv_at hl 0 rfl) ?_
      refine lv_iload_n hx hb dX5_goesOn_93 rfl (lv_at hl 1 rfl) ?_
      refine lv_iload hx hb dX5_goesOn_94 (lv_at hl 2 rfl) ?_
      obtain ⟨o_order_2, hc, hf⟩ := pb1 hf
      refine gCv (va_runV (As := [.int l3, .int l4]) (rest := []) hF (kX5_swaps l dC dI Z cC cI cZ cW a_o a_o_text a_o_need a_o_made a_o_skillTold a_o_placeTold a_o_skips a_o_wheelTold a_o_tunes a_o_s a_o_spare a_o_kept a_o_isKept a_o_makes a_o_works a_o_order _ o_thrown o_trace o_typed o_next o_token o_place o_value o_fault o_trades o_people o_draftTrades o_draftPeople o_isShut o_falling o_order l3 l4 N o_order_2 hc) (cwV 2 hts gX5_goesOn_X5_swaps rfl rfl rfl (by decide +kernel) ⟨Nat.le_of_ble_eq_true rfl, Nat.le_of_ble_eq_true rfl⟩) (gPV (wc := [(a_o, .inr (5, [.int o_thrown, .long o_trace, .ref a_o_text, .int o_typed, .int o_next, .int o_token, .int o_place, .int o_value, .int o_fault, .ref a_o_need, .ref a_o_made, .ref a_o_skillTold, .ref a_o_placeTold, .ref a_o_skips, .ref a_o_wheelTold, .int o_trades, .int o_people, .int o_draftTrades, .int o_draftPeople, .int o_isShut, .ref a_o_tunes, .ref a_o_s, .ref a_o_spare, .ref a_o_kept, .ref a_o_isKept, .ref a_o_makes, .ref a_o_works, .ref a_o_order, .int o_falling])), (a_o_order, .inl (cI, 6, .inl o_order))]) hK hN hA hS hP hD [0, 1] rfl rfl (q0 := 0) (ci := 5) rfl rfl rfl) rfl rfl hl.1 rfl (lv_room (Nat.le_of_ble_eq_true rfl)) dX5_goesOn_96 ⟨Nat.zero_le _, Nat.zero_le _⟩) hP hD hS hA [0, 1] rfl rfl rfl (fun H locs hP hD hS => ?_)
      have hP : va_P (dC, dI) vwCl [(a_o, .inr (5, [.int o_thrown, .long o_trace, .ref a_o_text, .int o_typed, .int o_next, .int o_token, .int o_place, .int o_value, .int o_fault, .ref a_o_need, .ref a_o_made, .ref a_o_skillTold, .ref a_o_placeTold, .ref a_o_skips, .ref a_o_wheelTold, .int o_trades, .int o_people, .int o_draftTrades, .int o_draftPeople, .int o_isShut, .ref a_o_tunes, .ref a_o_s, .ref a_o_spare, .ref a_o_kept, .ref a_o_isKept, .ref a_o_makes, .ref a_o_works, .ref a_o_order, .int o_falling])), (a_o_order, .inl (cI, 6, .inl o_order_2))] H := hP
      have hD : va_D A [(a_o, .inr (5, [.int o_thrown, .long o_trace, .ref a_o_text, .int o_typed, .int o_next, .int o_token, .int o_place, .int o_value, .int o_fault, .ref a_o_need, .ref a_o_made, .ref a_o_skillTold, .ref a_o_placeTold, .ref a_o_skips, .ref a_o_wheelTold, .int o_trades, .int o_people, .int o_draftTrades, .int o_draftPeople, .int o_isShut, .ref a_o_tunes, .ref a_o_s, .ref a_o_spare, .ref a_o_kept, .ref a_o_isKept, .ref a_o_makes, .ref a_o_works, .ref a_o_order, .int o_falling])), (a_o_order, .inl (cI, 6, .inl o_order_2))] := hD
      refine lv_iinc (v := (l3 + 1)) (lv' := [(3, .int (l3 + 1)), (0, .ref a_o), (4, .int l4)]) hx hb dX5_goesOn_99 hl (k := 1) rfl rfl (by decide) rfl (fun ls hl => ?_)
      refine lv_iinc (v := (l4 + (-1 : Int32))) (lv' := [(4, .int (l4 + (-1 : Int32))), (3, .int (l3 + 1)), (0, .ref a_o)]) hx hb dX5_goesOn_102 hl (k := 2) rfl rfl (by decide) rfl (fun ls hl => ?_)
      refine lv_goto (tgt := 86) hx hb dX5_goesOn_105 (by decide) ?_
      exact ih _ _ _ _ _ _ hf _ _ _ hP hD hS (lv_sub hl [2, 1, 0] rfl) kx
set_option maxHeartbeats 4000000 in
set_option maxRecDepth 100000 in
theorem kX5_goesOn (l : Launch) (dC : Nat → ClassId) (dI : Nat → Nat → Nat) (Z : gZ) (cC cI cZ cW : ClassId) (a_o a_o_text a_o_need a_o_made a_o_skillTold a_o_placeTold a_o_skips a_o_wheelTold a_o_tunes a_o_s a_o_spare a_o_kept a_o_isKept a_o_makes a_o_works a_o_order : Nat) (sz : Nat) (o_thrown : Int32) (o_trace : Int64) (o_typed : Int32) (o_next : Int32) (o_token : Int32) (o_place : Int32) (o_value : Int32) (o_fault : Int32) (o_trades : Int32) (o_people : Int32) (o_draftTrades : Int32) (o_draftPeople : Int32) (o_isShut : Int32) (o_falling : Int32) (o_order : Nat → Int32)  (N : Nat) (r' : Int32) (o_order' : Nat → Int32) (hf : fX5_goesOn N o_trades o_order   = some (r', o_order')) : Met l yX5_goesOn wsX5_goesOn rmX5_goesOn (va_Pc [.ref a_o] (gB (dC, dI) Z [(cC, .char), (cI, .int), (cZ, .boolean), (cW, .object RX3)] [(a_o, .inr (5, [.int o_thrown, .long o_trace, .ref a_o_text, .int o_typed, .int o_next, .int o_token, .int o_place, .int o_value, .int o_fault, .ref a_o_need, .ref a_o_made, .ref a_o_skillTold, .ref a_o_placeTold, .ref a_o_skips, .ref a_o_wheelTold, .int o_trades, .int o_people, .int o_draftTrades, .int o_draftPeople, .int o_isShut, .ref a_o_tunes, .ref a_o_s, .ref a_o_spare, .ref a_o_kept, .ref a_o_isKept, .ref a_o_makes, .ref a_o_works, .ref a_o_order, .int o_falling])), (a_o_order, .inl (cI, 6, .inl o_order))] sz)) (va_Qi (fun (r : Int32) (_ : Unit) => r = r') (gE (dC, dI) [(a_o, .inr (5, [.int o_thrown, .long o_trace, .ref a_o_text, .int o_typed, .int o_next, .int o_token, .int o_place, .int o_value, .int o_fault, .ref a_o_need, .ref a_o_made, .ref a_o_skillTold, .ref a_o_placeTold, .ref a_o_skips, .ref a_o_wheelTold, .int o_trades, .int o_people, .int o_draftTrades, .int o_draftPeople, .int o_isShut, .ref a_o_tunes, .ref a_o_s, .ref a_o_spare, .ref a_o_kept, .ref a_o_isKept, .ref a_o_makes, .ref a_o_works, .ref a_o_order, .int o_falling])), (a_o_order, .inl (cI, 6, .inl o_order'))]) (va_A [(a_o, .inr (5, [.int o_thrown, .long o_trace, .ref a_o_text, .int o_typed, .int o_next, .int o_token, .int o_place, .int o_value, .int o_fault, .ref a_o_need, .ref a_o_made, .ref a_o_skillTold, .ref a_o_placeTold, .ref a_o_skips, .ref a_o_wheelTold, .int o_trades, .int o_people, .int o_draftTrades, .int o_draftPeople, .int o_isShut, .ref a_o_tunes, .ref a_o_s, .ref a_o_spare, .ref a_o_kept, .ref a_o_isKept, .ref a_o_makes, .ref a_o_works, .ref a_o_order, .int o_falling])), (a_o_order, .inl (cI, 6, .inl o_order))] sz)) 0 0 (va_A [(a_o, .inr (5, [.int o_thrown, .long o_trace, .ref a_o_text, .int o_typed, .int o_next, .int o_token, .int o_place, .int o_value, .int o_fault, .ref a_o_need, .ref a_o_made, .ref a_o_skillTold, .ref a_o_placeTold, .ref a_o_skips, .ref a_o_wheelTold, .int o_trades, .int o_people, .int o_draftTrades, .int o_draftPeople, .int o_isShut, .ref a_o_tunes, .ref a_o_s, .ref a_o_spare, .ref a_o_kept, .ref a_o_isKept, .ref a_o_makes, .ref a_o_works, .ref a_o_order, .int o_falling])), (a_o_order, .inl (cI, 6, .inl o_order))] sz) := by
  refine gMet (cc := cX5_goesOn) (maxL := 5) (ret := (some .boolean)) (Qc := fun A => va_Qi (fun (r : Int32) (_ : Unit) => r = r') (gE (dC, dI) [(a_o, .inr (5, [.int o_thrown, .long o_trace, .ref a_o_text, .int o_typed, .int o_next, .int o_token, .int o_place, .int o_value, .int o_fault, .ref a_o_need, .ref a_o_made, .ref a_o_skillTold, .ref a_o_placeTold, .ref a_o_skips, .ref a_o_wheelTold, .int o_trades, .int o_people, .int o_draftTrades, .int o_draftPeople, .int o_isShut, .ref a_o_tunes, .ref a_o_s, .ref a_o_spare, .ref a_o_kept, .ref a_o_isKept, .ref a_o_makes, .ref a_o_works, .ref a_o_order, .int o_falling])), (a_o_order, .inl (cI, 6, .inl o_order'))]) A) (by decide) rfl (Nat.le_of_ble_eq_true rfl) ?_
  intro p e s m below meth c A ls hg0 _ hsz hP hD hS hl
  have hg0 : gX p s m _ meth c cX5_goesOn 5 (some .boolean) wsX5_goesOn RX5 (dC, dI) Z [(cC, .char), (cI, .int), (cZ, .boolean), (cW, .object RX3)] A := hg0
  obtain ⟨hx, hb, hr, hml, hown, hts, hlocks, hA, hK, hN⟩ := id hg0
  subst hsz
  have hF : CallFix p m c cX5_goesOn 5 s _ wsX5_goesOn RX5 := ⟨hx, hb, hml, hown, hts⟩
  have hl : lv_has ls 5 [(0, .ref a_o)] := hl
  unfold fX5_goesOn at hf
  refine lv_aload_n hx hb dX5_goesOn_0 rfl (lv_at hl 0 rfl) ?_
  refine va_get (D := (dC, dI)) (ci := 5) (v := .int o_trades) (C := RX5) (T := TX5) (N := 29) hx hb hts uX5_goesOn_X5 hown hK hP 0 rfl rfl 15 (by decide) (hts _ mX5_goesOn_0) (fun _ h9 => h9) rfl dX5_goesOn_1 ?_
  refine lv_iconst (v := (2 : Int32)) hx hb dX5_goesOn_4 (by decide) ?_
  refine lv_isub hx hb dX5_goesOn_5 ?_
  refine lv_istore_n (lv' := [(1, .int (o_trades - (2 : Int32))), (0, .ref a_o)]) hx hb dX5_goesOn_6 rfl hl (by decide) rfl (fun ls hl => ?_)
  obtain ⟨l1_1, hc, hf⟩ := pb1 hf
  refine wX5_goesOn_7 hg0 a_o a_o_text a_o_need a_o_made a_o_skillTold a_o_placeTold a_o_skips a_o_wheelTold a_o_tunes a_o_s a_o_spare a_o_kept a_o_isKept a_o_makes a_o_works a_o_order o_thrown o_trace o_typed o_next o_token o_place o_value o_fault o_trades o_people o_draftTrades o_draftPeople o_isShut o_falling o_order  N N (o_trades - (2 : Int32)) l1_1 hc _ _ _ hP hD hS (lv_sub hl [1, 0] rfl) (fun H locs ls hP hD hS hl => ?_)
  refine lv_iload_n hx hb dX5_goesOn_34 rfl (lv_at hl 1 rfl) ?_
  refine lv_if_ge (tgt := 40) hx hb dX5_goesOn_35 (by decide) (fun c_2 => ?_) (fun c_2 => ?_)
  · have hf := pit hf c_2
    refine lv_aload_n hx hb dX5_goesOn_40 rfl (lv_at hl 0 rfl) ?_
    refine va_get (D := (dC, dI)) (ci := 5) (v := .int o_trades) (C := RX5) (T := TX5) (N := 29) hx hb hts uX5_goesOn_X5 hown hK hP 0 rfl rfl 15 (by decide) (hts _ mX5_goesOn_0) (fun _ h9 => h9) rfl dX5_goesOn_41 ?_
    refine lv_iconst (v := (1 : Int32)) hx hb dX5_goesOn_44 (by decide) ?_
    refine lv_isub hx hb dX5_goesOn_45 ?_
    refine lv_istore_n (lv' := [(2, .int (o_trades - (1 : Int32))), (0, .ref a_o), (1, .int l1_1)]) hx hb dX5_goesOn_46 rfl hl (by decide) rfl (fun ls hl => ?_)
    obtain ⟨l2_3, hc, hf⟩ := pb1 hf
    refine wX5_goesOn_47 hg0 a_o a_o_text a_o_need a_o_made a_o_skillTold a_o_placeTold a_o_skips a_o_wheelTold a_o_tunes a_o_s a_o_spare a_o_kept a_o_isKept a_o_makes a_o_works a_o_order o_thrown o_trace o_typed o_next o_token o_place o_value o_fault o_trades o_people o_draftTrades o_draftPeople o_isShut o_falling o_order l1_1 N N (o_trades - (1 : Int32)) l2_3 hc _ _ _ hP hD hS (lv_sub hl [1, 2, 0] rfl) (fun H locs ls hP hD hS hl => ?_)
    refine lv_aload_n hx hb dX5_goesOn_68 rfl (lv_at hl 0 rfl) ?_
    refine lv_iload_n hx hb dX5_goesOn_69 rfl (lv_at hl 1 rfl) ?_
    refine lv_iload_n hx hb dX5_goesOn_70 rfl (lv_at hl 2 rfl) ?_
    obtain ⟨o_order_4, hc, hf⟩ := pb1 hf
    refine gCv (va_runV (As := [.int l1_1, .int l2_3]) (rest := []) hF (kX5_swaps l dC dI Z cC cI cZ cW a_o a_o_text a_o_need a_o_made a_o_skillTold a_o_placeTold a_o_skips a_o_wheelTold a_o_tunes a_o_s a_o_spare a_o_kept a_o_isKept a_o_makes a_o_works a_o_order _ o_thrown o_trace o_typed o_next o_token o_place o_value o_fault o_trades o_people o_draftTrades o_draftPeople o_isShut o_falling o_order l1_1 l2_3 N o_order_4 hc) (cwV 2 hts gX5_goesOn_X5_swaps rfl rfl rfl (by decide +kernel) ⟨Nat.le_of_ble_eq_true rfl, Nat.le_of_ble_eq_true rfl⟩) (gPV (wc := [(a_o, .inr (5, [.int o_thrown, .long o_trace, .ref a_o_text, .int o_typed, .int o_next, .int o_token, .int o_place, .int o_value, .int o_fault, .ref a_o_need, .ref a_o_made, .ref a_o_skillTold, .ref a_o_placeTold, .ref a_o_skips, .ref a_o_wheelTold, .int o_trades, .int o_people, .int o_draftTrades, .int o_draftPeople, .int o_isShut, .ref a_o_tunes, .ref a_o_s, .ref a_o_spare, .ref a_o_kept, .ref a_o_isKept, .ref a_o_makes, .ref a_o_works, .ref a_o_order, .int o_falling])), (a_o_order, .inl (cI, 6, .inl o_order))]) hK hN hA hS hP hD [0, 1] rfl rfl (q0 := 0) (ci := 5) rfl rfl rfl) rfl rfl hl.1 rfl (lv_room (Nat.le_of_ble_eq_true rfl)) dX5_goesOn_71 ⟨Nat.zero_le _, Nat.zero_le _⟩) hP hD hS hA [0, 1] rfl rfl rfl (fun H locs hP hD hS => ?_)
    have hP : va_P (dC, dI) vwCl [(a_o, .inr (5, [.int o_thrown, .long o_trace, .ref a_o_text, .int o_typed, .int o_next, .int o_token, .int o_place, .int o_value, .int o_fault, .ref a_o_need, .ref a_o_made, .ref a_o_skillTold, .ref a_o_placeTold, .ref a_o_skips, .ref a_o_wheelTold, .int o_trades, .int o_people, .int o_draftTrades, .int o_draftPeople, .int o_isShut, .ref a_o_tunes, .ref a_o_s, .ref a_o_spare, .ref a_o_kept, .ref a_o_isKept, .ref a_o_makes, .ref a_o_works, .ref a_o_order, .int o_falling])), (a_o_order, .inl (cI, 6, .inl o_order_4))] H := hP
    have hD : va_D A [(a_o, .inr (5, [.int o_thrown, .long o_trace, .ref a_o_text, .int o_typed, .int o_next, .int o_token, .int o_place, .int o_value, .int o_fault, .ref a_o_need, .ref a_o_made, .ref a_o_skillTold, .ref a_o_placeTold, .ref a_o_skips, .ref a_o_wheelTold, .int o_trades, .int o_people, .int o_draftTrades, .int o_draftPeople, .int o_isShut, .ref a_o_tunes, .ref a_o_s, .ref a_o_spare, .ref a_o_kept, .ref a_o_isKept, .ref a_o_makes, .ref a_o_works, .ref a_o_order, .int o_falling])), (a_o_order, .inl (cI, 6, .inl o_order_4))] := hD
    refine lv_iload_n hx hb dX5_goesOn_74 rfl (lv_at hl 1 rfl) ?_
    refine lv_iconst (v := (1 : Int32)) hx hb dX5_goesOn_75 (by decide) ?_
    refine lv_iadd hx hb dX5_goesOn_76 ?_
    refine lv_istore_n (lv' := [(3, .int (l1_1 + (1 : Int32))), (0, .ref a_o), (1, .int l1_1), (2, .int l2_3)]) hx hb dX5_goesOn_77 rfl hl (by decide) rfl (fun ls hl => ?_)
    refine lv_aload_n hx hb dX5_goesOn_78 rfl (lv_at hl 1 rfl) ?_
    refine va_get (D := (dC, dI)) (ci := 5) (v := .int o_trades) (C := RX5) (T := TX5) (N := 29) hx hb hts uX5_goesOn_X5 hown hK hP 0 rfl rfl 15 (by decide) (hts _ mX5_goesOn_0) (fun _ h9 => h9) rfl dX5_goesOn_79 ?_
    refine lv_iconst (v := (1 : Int32)) hx hb dX5_goesOn_82 (by decide) ?_
    refine lv_isub hx hb dX5_goesOn_83 ?_
    refine lv_istore (lv' := [(4, .int (o_trades - (1 : Int32))), (3, .int (l1_1 + (1 : Int32))), (0, .ref a_o), (1, .int l1_1), (2, .int l2_3)]) hx hb dX5_goesOn_84 hl (by decide) rfl (fun ls hl => ?_)
    obtain ⟨o_order_5, l3_6, l4_7, hc, hf⟩ := pb3 hf
    refine wX5_goesOn_86 hg0 a_o a_o_text a_o_need a_o_made a_o_skillTold a_o_placeTold a_o_skips a_o_wheelTold a_o_tunes a_o_s a_o_spare a_o_kept a_o_isKept a_o_makes a_o_works a_o_order o_thrown o_trace o_typed o_next o_token o_place o_value o_fault o_trades o_people o_draftTrades o_draftPeople o_isShut o_falling  N N o_order_4 (l1_1 + (1 : Int32)) (o_trades - (1 : Int32)) o_order_5 l3_6 l4_7 hc _ _ _ hP hD hS (lv_sub hl [2, 1, 0] rfl) (fun H locs ls hP hD hS hl => ?_)
    refine lv_iconst (v := (1 : Int32)) hx hb dX5_goesOn_108 (by decide) ?_
    have q0 := Option.some.inj hf
    obtain ⟨e0, q1⟩ := Prod.mk.inj q0
    subst e0
    subst q1
    exact gRz hx hb hr rfl hlocks hP hS dX5_goesOn_109
  · have hf := pif hf c_2
    refine lv_iconst (v := (0 : Int32)) hx hb dX5_goesOn_38 (by decide) ?_
    have q0 := Option.some.inj hf
    obtain ⟨e0, q1⟩ := Prod.mk.inj q0
    subst e0
    subst q1
    exact gRz hx hb hr rfl hlocks hP hS dX5_goesOn_39
abbrev rmX5_trace : Room := { frames := 0, cells := 0, slots := 0, locals := 0 }
set_option maxRecDepth 20000 in
theorem uX5_trace_X5 : ∀ w ∈ wsX50, w ∈ wsX5_trace := by decide +kernel
set_option maxRecDepth 20000 in
theorem mX5_trace_0 : (Cond.fieldLink RX5 59 "TradeWheelModel" "thrown" "I" : Cond) ∈ wsX5_trace := by decide +kernel
set_option maxRecDepth 20000 in
theorem mX5_trace_1 : (Cond.fieldLink RX5 199 "TradeWheelModel" "trace" "J" : Cond) ∈ wsX5_trace := by decide +kernel
set_option maxHeartbeats 4000000 in
set_option maxRecDepth 100000 in
theorem kX5_trace (l : Launch) (dC : Nat → ClassId) (dI : Nat → Nat → Nat) (Z : gZ) (cC cI cZ cW : ClassId) (a_o a_o_text a_o_need a_o_made a_o_skillTold a_o_placeTold a_o_skips a_o_wheelTold a_o_tunes a_o_s a_o_spare a_o_kept a_o_isKept a_o_makes a_o_works a_o_order : Nat) (sz : Nat) (o_thrown : Int32) (o_trace : Int64) (o_typed : Int32) (o_next : Int32) (o_token : Int32) (o_place : Int32) (o_value : Int32) (o_fault : Int32) (o_trades : Int32) (o_people : Int32) (o_draftTrades : Int32) (o_draftPeople : Int32) (o_isShut : Int32) (o_falling : Int32)  (N : Nat) (r' : Int64) (o_thrown' : Int32) (hf : fX5_trace N o_thrown o_trace   = some (r', o_thrown')) : Met l yX5_trace wsX5_trace rmX5_trace (va_Pc [.ref a_o] (gB (dC, dI) Z [(cC, .char), (cI, .int), (cZ, .boolean), (cW, .object RX3)] [(a_o, .inr (5, [.int o_thrown, .long o_trace, .ref a_o_text, .int o_typed, .int o_next, .int o_token, .int o_place, .int o_value, .int o_fault, .ref a_o_need, .ref a_o_made, .ref a_o_skillTold, .ref a_o_placeTold, .ref a_o_skips, .ref a_o_wheelTold, .int o_trades, .int o_people, .int o_draftTrades, .int o_draftPeople, .int o_isShut, .ref a_o_tunes, .ref a_o_s, .ref a_o_spare, .ref a_o_kept, .ref a_o_isKept, .ref a_o_makes, .ref a_o_works, .ref a_o_order, .int o_falling]))] sz)) (va_Ql (fun (r : Int64) (_ : Unit) => r = r') (gE (dC, dI) [(a_o, .inr (5, [.int o_thrown', .long o_trace, .ref a_o_text, .int o_typed, .int o_next, .int o_token, .int o_place, .int o_value, .int o_fault, .ref a_o_need, .ref a_o_made, .ref a_o_skillTold, .ref a_o_placeTold, .ref a_o_skips, .ref a_o_wheelTold, .int o_trades, .int o_people, .int o_draftTrades, .int o_draftPeople, .int o_isShut, .ref a_o_tunes, .ref a_o_s, .ref a_o_spare, .ref a_o_kept, .ref a_o_isKept, .ref a_o_makes, .ref a_o_works, .ref a_o_order, .int o_falling]))]) (va_A [(a_o, .inr (5, [.int o_thrown, .long o_trace, .ref a_o_text, .int o_typed, .int o_next, .int o_token, .int o_place, .int o_value, .int o_fault, .ref a_o_need, .ref a_o_made, .ref a_o_skillTold, .ref a_o_placeTold, .ref a_o_skips, .ref a_o_wheelTold, .int o_trades, .int o_people, .int o_draftTrades, .int o_draftPeople, .int o_isShut, .ref a_o_tunes, .ref a_o_s, .ref a_o_spare, .ref a_o_kept, .ref a_o_isKept, .ref a_o_makes, .ref a_o_works, .ref a_o_order, .int o_falling]))] sz)) 0 0 (va_A [(a_o, .inr (5, [.int o_thrown, .long o_trace, .ref a_o_text, .int o_typed, .int o_next, .int o_token, .int o_place, .int o_value, .int o_fault, .ref a_o_need, .ref a_o_made, .ref a_o_skillTold, .ref a_o_placeTold, .ref a_o_skips, .ref a_o_wheelTold, .int o_trades, .int o_people, .int o_draftTrades, .int o_draftPeople, .int o_isShut, .ref a_o_tunes, .ref a_o_s, .ref a_o_spare, .ref a_o_kept, .ref a_o_isKept, .ref a_o_makes, .ref a_o_works, .ref a_o_order, .int o_falling]))] sz) := by
  refine gMet (cc := cX5_trace) (maxL := 1) (ret := (some .long)) (Qc := fun A => va_Ql (fun (r : Int64) (_ : Unit) => r = r') (gE (dC, dI) [(a_o, .inr (5, [.int o_thrown', .long o_trace, .ref a_o_text, .int o_typed, .int o_next, .int o_token, .int o_place, .int o_value, .int o_fault, .ref a_o_need, .ref a_o_made, .ref a_o_skillTold, .ref a_o_placeTold, .ref a_o_skips, .ref a_o_wheelTold, .int o_trades, .int o_people, .int o_draftTrades, .int o_draftPeople, .int o_isShut, .ref a_o_tunes, .ref a_o_s, .ref a_o_spare, .ref a_o_kept, .ref a_o_isKept, .ref a_o_makes, .ref a_o_works, .ref a_o_order, .int o_falling]))]) A) (by decide) rfl (Nat.le_of_ble_eq_true rfl) ?_
  intro p e s m below meth c A ls hg0 _ hsz hP hD hS hl
  have hg0 : gX p s m _ meth c cX5_trace 1 (some .long) wsX5_trace RX5 (dC, dI) Z [(cC, .char), (cI, .int), (cZ, .boolean), (cW, .object RX3)] A := hg0
  obtain ⟨hx, hb, hr, hml, hown, hts, hlocks, hA, hK, hN⟩ := id hg0
  subst hsz
  have hF : CallFix p m c cX5_trace 1 s _ wsX5_trace RX5 := ⟨hx, hb, hml, hown, hts⟩
  have hl : lv_has ls 1 [(0, .ref a_o)] := hl
  unfold fX5_trace at hf
  refine lv_aload_n hx hb dX5_trace_0 rfl (lv_at hl 0 rfl) ?_
  refine lv_iconst (v := (0 : Int32)) hx hb dX5_trace_1 (by decide) ?_
  refine va_put (D := (dC, dI)) (ci := 5) (v := .int (0 : Int32)) (ty := .int) (C := RX5) (T := TX5) (N := 29) hx hb hts uX5_trace_X5 tyX5 tyX5_ok nmX5 hown hK hP hD hS 0 rfl rfl 0 (by decide) (hts _ mX5_trace_0) (fun _ h9 => h9) rfl (by decide +kernel) rfl rfl (Nat.le_of_ble_eq_true rfl) dX5_trace_2 (fun H locs hP hD hS => ?_)
  have hP : va_P (dC, dI) vwCl [(a_o, .inr (5, [.int (0 : Int32), .long o_trace, .ref a_o_text, .int o_typed, .int o_next, .int o_token, .int o_place, .int o_value, .int o_fault, .ref a_o_need, .ref a_o_made, .ref a_o_skillTold, .ref a_o_placeTold, .ref a_o_skips, .ref a_o_wheelTold, .int o_trades, .int o_people, .int o_draftTrades, .int o_draftPeople, .int o_isShut, .ref a_o_tunes, .ref a_o_s, .ref a_o_spare, .ref a_o_kept, .ref a_o_isKept, .ref a_o_makes, .ref a_o_works, .ref a_o_order, .int o_falling]))] H := hP
  have hD : va_D A [(a_o, .inr (5, [.int (0 : Int32), .long o_trace, .ref a_o_text, .int o_typed, .int o_next, .int o_token, .int o_place, .int o_value, .int o_fault, .ref a_o_need, .ref a_o_made, .ref a_o_skillTold, .ref a_o_placeTold, .ref a_o_skips, .ref a_o_wheelTold, .int o_trades, .int o_people, .int o_draftTrades, .int o_draftPeople, .int o_isShut, .ref a_o_tunes, .ref a_o_s, .ref a_o_spare, .ref a_o_kept, .ref a_o_isKept, .ref a_o_makes, .ref a_o_works, .ref a_o_order, .int o_falling]))] := hD
  refine lv_aload_n hx hb dX5_trace_5 rfl (lv_at hl 0 rfl) ?_
  refine va_get (D := (dC, dI)) (ci := 5) (v := .long o_trace) (C := RX5) (T := TX5) (N := 29) hx hb hts uX5_trace_X5 hown hK hP 0 rfl rfl 1 (by decide) (hts _ mX5_trace_1) (fun _ h9 => h9) rfl dX5_trace_6 ?_
  have q0 := Option.some.inj hf
  obtain ⟨e0, q1⟩ := Prod.mk.inj q0
  subst e0
  subst q1
  exact gRl hx hb hr hlocks hP hS dX5_trace_9
