abbrev rmX5_readsItem : Room := { frames := 6, cells := 0, slots := 0, locals := 137 }
set_option maxRecDepth 20000 in
theorem uX5_readsItem_X5 : ∀ w ∈ wsX50, w ∈ wsX5_readsItem := by decide +kernel
set_option maxRecDepth 20000 in
theorem mX5_readsItem_0 : (Cond.fieldLink RX5 123 "TradeWheelModel" "draftPeople" "I" : Cond) ∈ wsX5_readsItem := by decide +kernel
set_option maxRecDepth 20000 in
theorem mX5_readsItem_1 : (Cond.fieldLink RX5 116 "TradeWheelModel" "draftTrades" "I" : Cond) ∈ wsX5_readsItem := by decide +kernel
set_option maxRecDepth 20000 in
theorem mX5_readsItem_2 : (Cond.fieldLink RX5 129 "TradeWheelModel" "isShut" "Z" : Cond) ∈ wsX5_readsItem := by decide +kernel
set_option maxRecDepth 20000 in
theorem mX5_readsItem_3 : (Cond.fieldLink RX5 22 "TradeWheelModel" "placeTold" "[I" : Cond) ∈ wsX5_readsItem := by decide +kernel
set_option maxRecDepth 20000 in
theorem mX5_readsItem_4 : (Cond.fieldLink RX5 25 "TradeWheelModel" "skips" "[I" : Cond) ∈ wsX5_readsItem := by decide +kernel
set_option maxRecDepth 20000 in
theorem mX5_readsItem_5 : (Cond.fieldLink RX5 19 "TradeWheelModel" "skillTold" "[I" : Cond) ∈ wsX5_readsItem := by decide +kernel
set_option maxRecDepth 20000 in
theorem mX5_readsItem_6 : (Cond.fieldLink RX5 13 "TradeWheelModel" "need" "[I" : Cond) ∈ wsX5_readsItem := by decide +kernel
set_option maxRecDepth 20000 in
theorem mX5_readsItem_7 : (Cond.fieldLink RX5 16 "TradeWheelModel" "made" "[I" : Cond) ∈ wsX5_readsItem := by decide +kernel
set_option maxRecDepth 20000 in
theorem mX5_readsItem_8 : (Cond.fieldLink RX5 28 "TradeWheelModel" "wheelTold" "[I" : Cond) ∈ wsX5_readsItem := by decide +kernel
set_option maxHeartbeats 4000000 in
set_option maxRecDepth 100000 in
theorem wX5_readsItem_78 {p : Program} {l : Launch} {e : Env} {s : State} {m : MethodId} {args : Array Value} {below : List Frame} {meth : Method} {c : Code} {Q : State → Prop} {A : Nat → Prop} {dC : Nat → ClassId} {dI : Nat → Nat → Nat} {Z : gZ} {cC cI cZ cW : ClassId} (hg0 : gX p s m args meth c cX5_readsItem 5 none wsX5_readsItem RX5 (dC, dI) Z [(cC, .char), (cI, .int), (cZ, .boolean), (cW, .object RX3)] A) (a_o a_o_text a_o_need a_o_made a_o_skillTold a_o_placeTold a_o_skips a_o_wheelTold a_o_tunes a_o_s a_o_spare a_o_kept a_o_isKept a_o_makes a_o_works a_o_order : Nat) (o_thrown : Int32) (o_trace : Int64) (o_typed : Int32) (o_next : Int32) (o_token : Int32) (o_place : Int32) (o_value : Int32) (o_fault : Int32) (o_trades : Int32) (o_people : Int32) (o_draftTrades : Int32) (o_draftPeople : Int32) (o_isShut : Int32) (o_falling : Int32) (o_text : Nat → Int32) (o_need : Nat → Int32) (o_made : Nat → Int32) (o_placeTold : Nat → Int32) (o_skips : Nat → Int32) (o_wheelTold : Nat → Int32) (l1 : Int32) (N : Nat) : ∀ (n : Nat) (o_skillTold : Nat → Int32) (l2 : Int32) (o_skillTold' : Nat → Int32) (l2' : Int32), fX5_readsItem_78 N o_draftPeople n o_skillTold l2 = some (o_skillTold', l2') → ∀ (H : Heap) (locs : List Loc) (ls : Array Slot), va_P (dC, dI) vwCl [(a_o, .inr (5, [.int o_thrown, .long o_trace, .ref a_o_text, .int o_typed, .int o_next, .int o_token, .int o_place, .int o_value, .int o_fault, .ref a_o_need, .ref a_o_made, .ref a_o_skillTold, .ref a_o_placeTold, .ref a_o_skips, .ref a_o_wheelTold, .int o_trades, .int o_people, .int o_draftTrades, .int o_draftPeople, .int o_isShut, .ref a_o_tunes, .ref a_o_s, .ref a_o_spare, .ref a_o_kept, .ref a_o_isKept, .ref a_o_makes, .ref a_o_works, .ref a_o_order, .int o_falling])), (a_o_text, .inl (cI, 400, .inl o_text)), (a_o_need, .inl (cI, 12, .inl o_need)), (a_o_made, .inl (cI, 12, .inl o_made)), (a_o_skillTold, .inl (cI, 72, .inl o_skillTold)), (a_o_placeTold, .inl (cI, 12, .inl o_placeTold)), (a_o_skips, .inl (cI, 12, .inl o_skips)), (a_o_wheelTold, .inl (cI, 12, .inl o_wheelTold))] H → va_D A [(a_o, .inr (5, [.int o_thrown, .long o_trace, .ref a_o_text, .int o_typed, .int o_next, .int o_token, .int o_place, .int o_value, .int o_fault, .ref a_o_need, .ref a_o_made, .ref a_o_skillTold, .ref a_o_placeTold, .ref a_o_skips, .ref a_o_wheelTold, .int o_trades, .int o_people, .int o_draftTrades, .int o_draftPeople, .int o_isShut, .ref a_o_tunes, .ref a_o_s, .ref a_o_spare, .ref a_o_kept, .ref a_o_isKept, .ref a_o_makes, .ref a_o_works, .ref a_o_order, .int o_falling])), (a_o_text, .inl (cI, 400, .inl o_text)), (a_o_need, .inl (cI, 12, .inl o_need)), (a_o_made, .inl (cI, 12, .inl o_made)), (a_o_skillTold, .inl (cI, 72, .inl o_skillTold)), (a_o_placeTold, .inl (cI, 12, .inl o_placeTold)), (a_o_skips, .inl (cI, 12, .inl o_skips)), (a_o_wheelTold, .inl (cI, 12, .inl o_wheelTold))] → va_S A s.heap H locs → lv_has ls 5 [(0, .ref a_o), (1, .int l1), (2, .int l2)] → (∀ (H : Heap) (locs : List Loc) (ls : Array Slot), va_P (dC, dI) vwCl [(a_o, .inr (5, [.int o_thrown, .long o_trace, .ref a_o_text, .int o_typed, .int o_next, .int o_token, .int o_place, .int o_value, .int o_fault, .ref a_o_need, .ref a_o_made, .ref a_o_skillTold, .ref a_o_placeTold, .ref a_o_skips, .ref a_o_wheelTold, .int o_trades, .int o_people, .int o_draftTrades, .int o_draftPeople, .int o_isShut, .ref a_o_tunes, .ref a_o_s, .ref a_o_spare, .ref a_o_kept, .ref a_o_isKept, .ref a_o_makes, .ref a_o_works, .ref a_o_order, .int o_falling])), (a_o_text, .inl (cI, 400, .inl o_text)), (a_o_need, .inl (cI, 12, .inl o_need)), (a_o_made, .inl (cI, 12, .inl o_made)), (a_o_skillTold, .inl (cI, 72, .inl o_skillTold')), (a_o_placeTold, .inl (cI, 12, .inl o_placeTold)), (a_o_skips, .inl (cI, 12, .inl o_skips)), (a_o_wheelTold, .inl (cI, 12, .inl o_wheelTold))] H → va_D A [(a_o, .inr (5, [.int o_thrown, .long o_trace, .ref a_o_text, .int o_typed, .int o_next, .int o_token, .int o_place, .int o_value, .int o_fault, .ref a_o_need, .ref a_o_made, .ref a_o_skillTold, .ref a_o_placeTold, .ref a_o_skips, .ref a_o_wheelTold, .int o_trades, .int o_people, .int o_draftTrades, .int o_draftPeople, .int o_isShut, .ref a_o_tunes, .ref a_o_s, .ref a_o_spare, .ref a_o_kept, .ref a_o_isKept, .ref a_o_makes, .ref a_o_works, .ref a_o_order, .int o_falling])), (a_o_text, .inl (cI, 400, .inl o_text)), (a_o_need, .inl (cI, 12, .inl o_need)), (a_o_made, .inl (cI, 12, .inl o_made)), (a_o_skillTold, .inl (cI, 72, .inl o_skillTold')), (a_o_placeTold, .inl (cI, 12, .inl o_placeTold)), (a_o_skips, .inl (cI, 12, .inl o_skips)), (a_o_wheelTold, .inl (cI, 12, .inl o_wheelTold))] → va_S A s.heap H locs → lv_has ls 5 [(0, .ref a_o), (1, .int l1)] → W p l e (headSpec wsX5_readsItem rmX5_readsItem).room s m args below meth c H locs 0 0 Q (F0 m 108 ls [])) → W p l e (headSpec wsX5_readsItem rmX5_readsItem).room s m args below meth c H locs 0 0 Q (F0 m 78 ls []) := by
  obtain ⟨hx, hb, hr, hml, hown, hts, hlocks, hA, hK, hN⟩ := id hg0
  have hF : CallFix p m c cX5_readsItem 5 s args wsX5_readsItem RX5 := ⟨hx, hb, hml, hown, hts⟩
  intro n
  induction n with
  | zero =>
    intro o_skillTold l2 o_skillTold' l2' hf
    have hf := fX5_readsItem_78_0.symm.trans hf
    cases hf
  | succ n ih =>
    intro o_skillTold l2 o_skillTold' l2' hf H locs ls hP hD hS hl kx
    have hf := fX5_readsItem_78_s.symm.trans hf
    refine lv_iload_n hx hb dX5_readsItem_78 rfl (lv_at hl 2 rfl) ?_
    refine lv_bipush (v := (6 : Int32)) hx hb dX5_readsItem_79 (by decide) ?_
    refine lv_icmp_ge (tgt := 108) hx hb dX5_readsItem_81 (by decide) (fun c_1 => ?_) (fun c_1 => ?_)
    · have hf := pit hf c_1
      have q0 := Option.some.inj hf
      obtain ⟨e0, q1⟩ := Prod.mk.inj q0
      subst e0
      subst q1
      exact kx _ _ _ hP hD hS (lv_sub hl [0, 1] rfl)
    · have hf := pif hf c_1
      refine lv_aload_n hx hb dX5_readsItem_84 rfl (lv_at hl 0 rfl) ?_
      refine va_get (D := (dC, dI)) (ci := 5) (v := .ref a_o_skillTold) (C := RX5) (T := TX5) (N := 29) hx hb hts uX5_readsItem_X5 hown hK hP 0 rfl rfl 11 (by decide) (hts _ mX5_readsItem_5) (fun _ h9 => h9) rfl dX5_readsItem_85 ?_
      refine lv_bipush (v := (36 : Int32)) hx hb dX5_readsItem_88 (by decide) ?_
      refine lv_bipush (v := (6 : Int32)) hx hb dX5_readsItem_90 (by decide) ?_
      refine lv_aload_n hx hb dX5_readsItem_92 rfl (lv_at hl 0 rfl) ?_
      refine va_get (D := (dC, dI)) (ci := 5) (v := .int o_draftPeople) (C := RX5) (T := TX5) (N := 29) hx hb hts uX5_readsItem_X5 hown hK hP 0 rfl rfl 18 (by decide) (hts _ mX5_readsItem_0) (fun _ h9 => h9) rfl dX5_readsItem_93 ?_
      refine lv_imul hx hb dX5_readsItem_96 ?_
      refine lv_iadd hx hb dX5_readsItem_97 ?_
      refine lv_iload_n hx hb dX5_readsItem_98 rfl (lv_at hl 2 rfl) ?_
      refine lv_iadd hx hb dX5_readsItem_99 ?_
      refine lv_iconst (v := (3 : Int32)) hx hb dX5_readsItem_100 (by decide) ?_
      obtain ⟨h_2, hf⟩ := pgd hf
      refine va_iast hx hb hK hP hD hS 4 1 rfl rfl h_2 dX5_readsItem_101 (fun H locs hP hD hS => ?_)
      have hP : va_P (dC, dI) vwCl [(a_o, .inr (5, [.int o_thrown, .long o_trace, .ref a_o_text, .int o_typed, .int o_next, .int o_token, .int o_place, .int o_value, .int o_fault, .ref a_o_need, .ref a_o_made, .ref a_o_skillTold, .ref a_o_placeTold, .ref a_o_skips, .ref a_o_wheelTold, .int o_trades, .int o_people, .int o_draftTrades, .int o_draftPeople, .int o_isShut, .ref a_o_tunes, .ref a_o_s, .ref a_o_spare, .ref a_o_kept, .ref a_o_isKept, .ref a_o_makes, .ref a_o_works, .ref a_o_order, .int o_falling])), (a_o_text, .inl (cI, 400, .inl o_text)), (a_o_need, .inl (cI, 12, .inl o_need)), (a_o_made, .inl (cI, 12, .inl o_made)), (a_o_skillTold, .inl (cI, 72, .inl (upd o_skillTold (((36 : Int32) + ((6 : Int32) * o_draftPeople)) + l2).toNatClampNeg (3 : Int32)))), (a_o_placeTold, .inl (cI, 12, .inl o_placeTold)), (a_o_skips, .inl (cI, 12, .inl o_skips)), (a_o_wheelTold, .inl (cI, 12, .inl o_wheelTold))] H := hP
      have hD : va_D A [(a_o, .inr (5, [.int o_thrown, .long o_trace, .ref a_o_text, .int o_typed, .int o_next, .int o_token, .int o_place, .int o_value, .int o_fault, .ref a_o_need, .ref a_o_made, .ref a_o_skillTold, .ref a_o_placeTold, .ref a_o_skips, .ref a_o_wheelTold, .int o_trades, .int o_people, .int o_draftTrades, .int o_draftPeople, .int o_isShut, .ref a_o_tunes, .ref a_o_s, .ref a_o_spare, .ref a_o_kept, .ref a_o_isKept, .ref a_o_makes, .ref a_o_works, .ref a_o_order, .int o_falling])), (a_o_text, .inl (cI, 400, .inl o_text)), (a_o_need, .inl (cI, 12, .inl o_need)), (a_o_made, .inl (cI, 12, .inl o_made)), (a_o_skillTold, .inl (cI, 72, .inl (upd o_skillTold (((36 : Int32) + ((6 : Int32) * o_draftPeople)) + l2).toNatClampNeg (3 : Int32)))), (a_o_placeTold, .inl (cI, 12, .inl o_placeTold)), (a_o_skips, .inl (cI, 12, .inl o_skips)), (a_o_wheelTold, .inl (cI, 12, .inl o_wheelTold))] := hD
      refine lv_iinc (v := (l2 + 1)) (lv' := [(2, .int (l2 + 1)), (0, .ref a_o), (1, .int l1)]) hx hb dX5_readsItem_102 hl (k := 2) rfl rfl (by decide) rfl (fun ls hl => ?_)
      refine lv_goto (tgt := 78) hx hb dX5_readsItem_105 (by decide) ?_
      exact ih _ _ _ _ hf _ _ _ hP hD hS (lv_sub hl [1, 2, 0] rfl) kx
set_option maxHeartbeats 4000000 in
set_option maxRecDepth 100000 in
theorem kX5_readsItem (l : Launch) (dC : Nat → ClassId) (dI : Nat → Nat → Nat) (Z : gZ) (cC cI cZ cW : ClassId) (a_o a_o_text a_o_need a_o_made a_o_skillTold a_o_placeTold a_o_skips a_o_wheelTold a_o_tunes a_o_s a_o_spare a_o_kept a_o_isKept a_o_makes a_o_works a_o_order : Nat) (sz : Nat) (o_thrown : Int32) (o_trace : Int64) (o_typed : Int32) (o_next : Int32) (o_token : Int32) (o_place : Int32) (o_value : Int32) (o_fault : Int32) (o_trades : Int32) (o_people : Int32) (o_draftTrades : Int32) (o_draftPeople : Int32) (o_isShut : Int32) (o_falling : Int32) (o_text : Nat → Int32) (o_need : Nat → Int32) (o_made : Nat → Int32) (o_skillTold : Nat → Int32) (o_placeTold : Nat → Int32) (o_skips : Nat → Int32) (o_wheelTold : Nat → Int32) (i1 : Int32) (N : Nat) (o_next' : Int32) (o_token' : Int32) (o_place' : Int32) (o_value' : Int32) (o_fault' : Int32) (o_draftTrades' : Int32) (o_draftPeople' : Int32) (o_isShut' : Int32) (o_need' : Nat → Int32) (o_made' : Nat → Int32) (o_skillTold' : Nat → Int32) (o_placeTold' : Nat → Int32) (o_skips' : Nat → Int32) (o_wheelTold' : Nat → Int32) (hf : fX5_readsItem N o_typed o_next o_token o_place o_value o_fault o_draftTrades o_draftPeople o_isShut o_text o_need o_made o_skillTold o_placeTold o_skips o_wheelTold  i1 = some (o_next', o_token', o_place', o_value', o_fault', o_draftTrades', o_draftPeople', o_isShut', o_need', o_made', o_skillTold', o_placeTold', o_skips', o_wheelTold')) : Met l yX5_readsItem wsX5_readsItem rmX5_readsItem (va_Pc [.ref a_o, .int i1] (gB (dC, dI) Z [(cC, .char), (cI, .int), (cZ, .boolean), (cW, .object RX3)] [(a_o, .inr (5, [.int o_thrown, .long o_trace, .ref a_o_text, .int o_typed, .int o_next, .int o_token, .int o_place, .int o_value, .int o_fault, .ref a_o_need, .ref a_o_made, .ref a_o_skillTold, .ref a_o_placeTold, .ref a_o_skips, .ref a_o_wheelTold, .int o_trades, .int o_people, .int o_draftTrades, .int o_draftPeople, .int o_isShut, .ref a_o_tunes, .ref a_o_s, .ref a_o_spare, .ref a_o_kept, .ref a_o_isKept, .ref a_o_makes, .ref a_o_works, .ref a_o_order, .int o_falling])), (a_o_text, .inl (cI, 400, .inl o_text)), (a_o_need, .inl (cI, 12, .inl o_need)), (a_o_made, .inl (cI, 12, .inl o_made)), (a_o_skillTold, .inl (cI, 72, .inl o_skillTold)), (a_o_placeTold, .inl (cI, 12, .inl o_placeTold)), (a_o_skips, .inl (cI, 12, .inl o_skips)), (a_o_wheelTold, .inl (cI, 12, .inl o_wheelTold))] sz)) (va_Qv (fun (_ : Unit) => True) (gE (dC, dI) [(a_o, .inr (5, [.int o_thrown, .long o_trace, .ref a_o_text, .int o_typed, .int o_next', .int o_token', .int o_place', .int o_value', .int o_fault', .ref a_o_need, .ref a_o_made, .ref a_o_skillTold, .ref a_o_placeTold, .ref a_o_skips, .ref a_o_wheelTold, .int o_trades, .int o_people, .int o_draftTrades', .int o_draftPeople', .int o_isShut', .ref a_o_tunes, .ref a_o_s, .ref a_o_spare, .ref a_o_kept, .ref a_o_isKept, .ref a_o_makes, .ref a_o_works, .ref a_o_order, .int o_falling])), (a_o_text, .inl (cI, 400, .inl o_text)), (a_o_need, .inl (cI, 12, .inl o_need')), (a_o_made, .inl (cI, 12, .inl o_made')), (a_o_skillTold, .inl (cI, 72, .inl o_skillTold')), (a_o_placeTold, .inl (cI, 12, .inl o_placeTold')), (a_o_skips, .inl (cI, 12, .inl o_skips')), (a_o_wheelTold, .inl (cI, 12, .inl o_wheelTold'))]) (va_A [(a_o, .inr (5, [.int o_thrown, .long o_trace, .ref a_o_text, .int o_typed, .int o_next, .int o_token, .int o_place, .int o_value, .int o_fault, .ref a_o_need, .ref a_o_made, .ref a_o_skillTold, .ref a_o_placeTold, .ref a_o_skips, .ref a_o_wheelTold, .int o_trades, .int o_people, .int o_draftTrades, .int o_draftPeople, .int o_isShut, .ref a_o_tunes, .ref a_o_s, .ref a_o_spare, .ref a_o_kept, .ref a_o_isKept, .ref a_o_makes, .ref a_o_works, .ref a_o_order, .int o_falling])), (a_o_text, .inl (cI, 400, .inl o_text)), (a_o_need, .inl (cI, 12, .inl o_need)), (a_o_made, .inl (cI, 12, .inl o_made)), (a_o_skillTold, .inl (cI, 72, .inl o_skillTold)), (a_o_placeTold, .inl (cI, 12, .inl o_placeTold)), (a_o_skips, .inl (cI, 12, .inl o_skips)), (a_o_wheelTold, .inl (cI, 12, .inl o_wheelTold))] sz)) 0 0 (va_A [(a_o, .inr (5, [.int o_thrown, .long o_trace, .ref a_o_text, .int o_typed, .int o_next, .int o_token, .int o_place, .int o_value, .int o_fault, .ref a_o_need, .ref a_o_made, .ref a_o_skillTold, .ref a_o_placeTold, .ref a_o_skips, .ref a_o_wheelTold, .int o_trades, .int o_people, .int o_draftTrades, .int o_draftPeople, .int o_isShut, .ref a_o_tunes, .ref a_o_s, .ref a_o_spare, .ref a_o_kept, .ref a_o_isKept, .ref a_o_makes, .ref a_o_works, .ref a_o_order, .int o_falling])), (a_o_text, .inl (cI, 400, .inl o_text)), (a_o_need, .inl (cI, 12, .inl o_need)), (a_o_made, .inl (cI, 12, .inl o_made)), (a_o_skillTold, .inl (cI, 72, .inl o_skillTold)), (a_o_placeTold, .inl (cI, 12, .inl o_placeTold)), (a_o_skips, .inl (cI, 12, .inl o_skips)), (a_o_wheelTold, .inl (cI, 12, .inl o_wheelTold))] sz) := by
  refine gMet (cc := cX5_readsItem) (maxL := 5) (ret := none) (Qc := fun A => va_Qv (fun (_ : Unit) => True) (gE (dC, dI) [(a_o, .inr (5, [.int o_thrown, .long o_trace, .ref a_o_text, .int o_typed, .int o_next', .int o_token', .int o_place', .int o_value', .int o_fault', .ref a_o_need, .ref a_o_made, .ref a_o_skillTold, .ref a_o_placeTold, .ref a_o_skips, .ref a_o_wheelTold, .int o_trades, .int o_people, .int o_draftTrades', .int o_draftPeople', .int o_isShut', .ref a_o_tunes, .ref a_o_s, .ref a_o_spare, .ref a_o_kept, .ref a_o_isKept, .ref a_o_makes, .ref a_o_works, .ref a_o_order, .int o_falling])), (a_o_text, .inl (cI, 400, .inl o_text)), (a_o_need, .inl (cI, 12, .inl o_need')), (a_o_made, .inl (cI, 12, .inl o_made')), (a_o_skillTold, .inl (cI, 72, .inl o_skillTold')), (a_o_placeTold, .inl (cI, 12, .inl o_placeTold')), (a_o_skips, .inl (cI, 12, .inl o_skips')), (a_o_wheelTold, .inl (cI, 12, .inl o_wheelTold'))]) A) (by decide) rfl (Nat.le_of_ble_eq_true rfl) ?_
  intro p e s m below meth c A ls hg0 _ hsz hP hD hS hl
  have hg0 : gX p s m _ meth c cX5_readsItem 5 none wsX5_readsItem RX5 (dC, dI) Z [(cC, .char), (cI, .int), (cZ, .boolean), (cW, .object RX3)] A := hg0
  obtain ⟨hx, hb, hr, hml, hown, hts, hlocks, hA, hK, hN⟩ := id hg0
  subst hsz
  have hF : CallFix p m c cX5_readsItem 5 s _ wsX5_readsItem RX5 := ⟨hx, hb, hml, hown, hts⟩
  have hl : lv_has ls 5 [(0, .ref a_o), (1, .int i1)] := hl
  unfold fX5_readsItem at hf
  refine lv_iload_n hx hb dX5_readsItem_0 rfl (lv_at hl 1 rfl) ?_
  refine lv_if_ne (tgt := 71) hx hb dX5_readsItem_1 (by decide) (fun c_1 => ?_) (fun c_1 => ?_)
  · have hf := pif hf c_1
    refine lv_iload_n hx hb dX5_readsItem_71 rfl (lv_at hl 1 rfl) ?_
    refine lv_iconst (v := (1 : Int32)) hx hb dX5_readsItem_72 (by decide) ?_
    refine lv_icmp_ne (tgt := 148) hx hb dX5_readsItem_73 (by decide) (fun c_2 => ?_) (fun c_2 => ?_)
    · have hf := pif hf c_2
      refine lv_iload_n hx hb dX5_readsItem_148 rfl (lv_at hl 1 rfl) ?_
      refine lv_iconst (v := (5 : Int32)) hx hb dX5_readsItem_149 (by decide) ?_
      refine lv_icmp_ne (tgt := 160) hx hb dX5_readsItem_150 (by decide) (fun c_3 => ?_) (fun c_3 => ?_)
      · have hf := pif hf c_3
        refine lv_aload_n hx hb dX5_readsItem_160 rfl (lv_at hl 0 rfl) ?_
        refine lv_iconst (v := (0 : Int32)) hx hb dX5_readsItem_161 (by decide) ?_
        refine lv_aload_n hx hb dX5_readsItem_162 rfl (lv_at hl 0 rfl) ?_
        refine va_get (D := (dC, dI)) (ci := 5) (v := .int o_draftPeople) (C := RX5) (T := TX5) (N := 29) hx hb hts uX5_readsItem_X5 hown hK hP 0 rfl rfl 18 (by decide) (hts _ mX5_readsItem_0) (fun _ h9 => h9) rfl dX5_readsItem_163 ?_
        refine lv_iconst (v := (1 : Int32)) hx hb dX5_readsItem_166 (by decide) ?_
        refine lv_isub hx hb dX5_readsItem_167 ?_
        obtain ⟨r_4, o_next_5, o_token_6, o_place_7, o_value_8, o_fault_9, hc, hf⟩ := pb6 hf
        refine gCi (va_runV (As := [.int (0 : Int32), .int (o_draftPeople - (1 : Int32))]) (rest := []) hF (kX5_number l dC dI Z cC cI cZ cW a_o a_o_text a_o_need a_o_made a_o_skillTold a_o_placeTold a_o_skips a_o_wheelTold a_o_tunes a_o_s a_o_spare a_o_kept a_o_isKept a_o_makes a_o_works a_o_order _ o_thrown o_trace o_typed o_next o_token o_place o_value o_fault o_trades o_people o_draftTrades o_draftPeople o_isShut o_falling o_text (0 : Int32) (o_draftPeople - (1 : Int32)) N r_4 o_next_5 o_token_6 o_place_7 o_value_8 o_fault_9 hc) (cwV 2 hts gX5_readsItem_X5_number rfl rfl rfl (by decide +kernel) ⟨Nat.le_of_ble_eq_true rfl, Nat.le_of_ble_eq_true rfl⟩) (gPV (wc := [(a_o, .inr (5, [.int o_thrown, .long o_trace, .ref a_o_text, .int o_typed, .int o_next, .int o_token, .int o_place, .int o_value, .int o_fault, .ref a_o_need, .ref a_o_made, .ref a_o_skillTold, .ref a_o_placeTold, .ref a_o_skips, .ref a_o_wheelTold, .int o_trades, .int o_people, .int o_draftTrades, .int o_draftPeople, .int o_isShut, .ref a_o_tunes, .ref a_o_s, .ref a_o_spare, .ref a_o_kept, .ref a_o_isKept, .ref a_o_makes, .ref a_o_works, .ref a_o_order, .int o_falling])), (a_o_text, .inl (cI, 400, .inl o_text))]) hK hN hA hS hP hD [0, 1] rfl rfl (q0 := 0) (ci := 5) rfl rfl rfl) rfl rfl hl.1 rfl (lv_room (Nat.le_of_ble_eq_true rfl)) dX5_readsItem_168 ⟨Nat.zero_le _, Nat.zero_le _⟩) hP hD hS hA [0, 1] rfl rfl rfl (fun H locs hP hD hS => ?_)
        have hP : va_P (dC, dI) vwCl [(a_o, .inr (5, [.int o_thrown, .long o_trace, .ref a_o_text, .int o_typed, .int o_next_5, .int o_token_6, .int o_place_7, .int o_value_8, .int o_fault_9, .ref a_o_need, .ref a_o_made, .ref a_o_skillTold, .ref a_o_placeTold, .ref a_o_skips, .ref a_o_wheelTold, .int o_trades, .int o_people, .int o_draftTrades, .int o_draftPeople, .int o_isShut, .ref a_o_tunes, .ref a_o_s, .ref a_o_spare, .ref a_o_kept, .ref a_o_isKept, .ref a_o_makes, .ref a_o_works, .ref a_o_order, .int o_falling])), (a_o_text, .inl (cI, 400, .inl o_text)), (a_o_need, .inl (cI, 12, .inl o_need)), (a_o_made, .inl (cI, 12, .inl o_made)), (a_o_skillTold, .inl (cI, 72, .inl o_skillTold)), (a_o_placeTold, .inl (cI, 12, .inl o_placeTold)), (a_o_skips, .inl (cI, 12, .inl o_skips)), (a_o_wheelTold, .inl (cI, 12, .inl o_wheelTold))] H := hP
        have hD : va_D A [(a_o, .inr (5, [.int o_thrown, .long o_trace, .ref a_o_text, .int o_typed, .int o_next_5, .int o_token_6, .int o_place_7, .int o_value_8, .int o_fault_9, .ref a_o_need, .ref a_o_made, .ref a_o_skillTold, .ref a_o_placeTold, .ref a_o_skips, .ref a_o_wheelTold, .int o_trades, .int o_people, .int o_draftTrades, .int o_draftPeople, .int o_isShut, .ref a_o_tunes, .ref a_o_s, .ref a_o_spare, .ref a_o_kept, .ref a_o_isKept, .ref a_o_makes, .ref a_o_works, .ref a_o_order, .int o_falling])), (a_o_text, .inl (cI, 400, .inl o_text)), (a_o_need, .inl (cI, 12, .inl o_need)), (a_o_made, .inl (cI, 12, .inl o_made)), (a_o_skillTold, .inl (cI, 72, .inl o_skillTold)), (a_o_placeTold, .inl (cI, 12, .inl o_placeTold)), (a_o_skips, .inl (cI, 12, .inl o_skips)), (a_o_wheelTold, .inl (cI, 12, .inl o_wheelTold))] := hD
        refine lv_istore_n (lv' := [(2, .int r_4), (0, .ref a_o), (1, .int i1)]) hx hb dX5_readsItem_171 rfl hl (by decide) rfl (fun ls hl => ?_)
        refine lv_aload_n hx hb dX5_readsItem_172 rfl (lv_at hl 1 rfl) ?_
        refine lv_iconst (v := (0 : Int32)) hx hb dX5_readsItem_173 (by decide) ?_
        refine lv_aload_n hx hb dX5_readsItem_174 rfl (lv_at hl 1 rfl) ?_
        refine va_get (D := (dC, dI)) (ci := 5) (v := .int o_draftTrades) (C := RX5) (T := TX5) (N := 29) hx hb hts uX5_readsItem_X5 hown hK hP 0 rfl rfl 17 (by decide) (hts _ mX5_readsItem_1) (fun _ h9 => h9) rfl dX5_readsItem_175 ?_
        refine lv_iconst (v := (1 : Int32)) hx hb dX5_readsItem_178 (by decide) ?_
        refine lv_isub hx hb dX5_readsItem_179 ?_
        obtain ⟨r_10, o_next_11, o_token_12, o_place_13, o_value_14, o_fault_15, hc, hf⟩ := pb6 hf
        refine gCi (va_runV (As := [.int (0 : Int32), .int (o_draftTrades - (1 : Int32))]) (rest := []) hF (kX5_number l dC dI Z cC cI cZ cW a_o a_o_text a_o_need a_o_made a_o_skillTold a_o_placeTold a_o_skips a_o_wheelTold a_o_tunes a_o_s a_o_spare a_o_kept a_o_isKept a_o_makes a_o_works a_o_order _ o_thrown o_trace o_typed o_next_5 o_token_6 o_place_7 o_value_8 o_fault_9 o_trades o_people o_draftTrades o_draftPeople o_isShut o_falling o_text (0 : Int32) (o_draftTrades - (1 : Int32)) N r_10 o_next_11 o_token_12 o_place_13 o_value_14 o_fault_15 hc) (cwV 2 hts gX5_readsItem_X5_number rfl rfl rfl (by decide +kernel) ⟨Nat.le_of_ble_eq_true rfl, Nat.le_of_ble_eq_true rfl⟩) (gPV (wc := [(a_o, .inr (5, [.int o_thrown, .long o_trace, .ref a_o_text, .int o_typed, .int o_next_5, .int o_token_6, .int o_place_7, .int o_value_8, .int o_fault_9, .ref a_o_need, .ref a_o_made, .ref a_o_skillTold, .ref a_o_placeTold, .ref a_o_skips, .ref a_o_wheelTold, .int o_trades, .int o_people, .int o_draftTrades, .int o_draftPeople, .int o_isShut, .ref a_o_tunes, .ref a_o_s, .ref a_o_spare, .ref a_o_kept, .ref a_o_isKept, .ref a_o_makes, .ref a_o_works, .ref a_o_order, .int o_falling])), (a_o_text, .inl (cI, 400, .inl o_text))]) hK hN hA hS hP hD [0, 1] rfl rfl (q0 := 0) (ci := 5) rfl rfl rfl) rfl rfl hl.1 rfl (lv_room (Nat.le_of_ble_eq_true rfl)) dX5_readsItem_180 ⟨Nat.zero_le _, Nat.zero_le _⟩) hP hD hS hA [0, 1] rfl rfl rfl (fun H locs hP hD hS => ?_)
        have hP : va_P (dC, dI) vwCl [(a_o, .inr (5, [.int o_thrown, .long o_trace, .ref a_o_text, .int o_typed, .int o_next_11, .int o_token_12, .int o_place_13, .int o_value_14, .int o_fault_15, .ref a_o_need, .ref a_o_made, .ref a_o_skillTold, .ref a_o_placeTold, .ref a_o_skips, .ref a_o_wheelTold, .int o_trades, .int o_people, .int o_draftTrades, .int o_draftPeople, .int o_isShut, .ref a_o_tunes, .ref a_o_s, .ref a_o_spare, .ref a_o_kept, .ref a_o_isKept, .ref a_o_makes, .ref a_o_works, .ref a_o_order, .int o_falling])), (a_o_text, .inl (cI, 400, .inl o_text)), (a_o_need, .inl (cI, 12, .inl o_need)), (a_o_made, .inl (cI, 12, .inl o_made)), (a_o_skillTold, .inl (cI, 72, .inl o_skillTold)), (a_o_placeTold, .inl (cI, 12, .inl o_placeTold)), (a_o_skips, .inl (cI, 12, .inl o_skips)), (a_o_wheelTold, .inl (cI, 12, .inl o_wheelTold))] H := hP
        have hD : va_D A [(a_o, .inr (5, [.int o_thrown, .long o_trace, .ref a_o_text, .int o_typed, .int o_next_11, .int o_token_12, .int o_place_13, .int o_value_14, .int o_fault_15, .ref a_o_need, .ref a_o_made, .ref a_o_skillTold, .ref a_o_placeTold, .ref a_o_skips, .ref a_o_wheelTold, .int o_trades, .int o_people, .int o_draftTrades, .int o_draftPeople, .int o_isShut, .ref a_o_tunes, .ref a_o_s, .ref a_o_spare, .ref a_o_kept, .ref a_o_isKept, .ref a_o_makes, .ref a_o_works, .ref a_o_order, .int o_falling])), (a_o_text, .inl (cI, 400, .inl o_text)), (a_o_need, .inl (cI, 12, .inl o_need)), (a_o_made, .inl (cI, 12, .inl o_made)), (a_o_skillTold, .inl (cI, 72, .inl o_skillTold)), (a_o_placeTold, .inl (cI, 12, .inl o_placeTold)), (a_o_skips, .inl (cI, 12, .inl o_skips)), (a_o_wheelTold, .inl (cI, 12, .inl o_wheelTold))] := hD
        refine lv_istore_n (lv' := [(3, .int r_10), (2, .int r_4), (0, .ref a_o), (1, .int i1)]) hx hb dX5_readsItem_183 rfl hl (by decide) rfl (fun ls hl => ?_)
        refine lv_iload_n hx hb dX5_readsItem_184 rfl (lv_at hl 3 rfl) ?_
        refine lv_iconst (v := (2 : Int32)) hx hb dX5_readsItem_185 (by decide) ?_
        refine lv_icmp_ne (tgt := 199) hx hb dX5_readsItem_186 (by decide) (fun c_16 => ?_) (fun c_16 => ?_)
        · have hf := pif hf c_16
          refine lv_iconst (v := (0 : Int32)) hx hb dX5_readsItem_199 (by decide) ?_
          refine lv_istore (lv' := [(4, .int (0 : Int32)), (3, .int r_10), (2, .int r_4), (0, .ref a_o), (1, .int i1)]) hx hb dX5_readsItem_200 hl (by decide) rfl (fun ls hl => ?_)
          refine lv_aload_n hx hb dX5_readsItem_202 rfl (lv_at hl 3 rfl) ?_
          obtain ⟨r_17, hc, hf⟩ := pb1 hf
          refine gCi (va_runV (As := []) (rest := []) hF (kX5_isWell l dC dI Z cC cI cZ cW a_o a_o_text a_o_need a_o_made a_o_skillTold a_o_placeTold a_o_skips a_o_wheelTold a_o_tunes a_o_s a_o_spare a_o_kept a_o_isKept a_o_makes a_o_works a_o_order _ o_thrown o_trace o_typed o_next_11 o_token_12 o_place_13 o_value_14 o_fault_15 o_trades o_people o_draftTrades o_draftPeople o_isShut o_falling  N r_17 hc) (cwV 0 hts gX5_readsItem_X5_isWell rfl rfl rfl (by decide +kernel) ⟨Nat.le_of_ble_eq_true rfl, Nat.le_of_ble_eq_true rfl⟩) (gPV (wc := [(a_o, .inr (5, [.int o_thrown, .long o_trace, .ref a_o_text, .int o_typed, .int o_next_11, .int o_token_12, .int o_place_13, .int o_value_14, .int o_fault_15, .ref a_o_need, .ref a_o_made, .ref a_o_skillTold, .ref a_o_placeTold, .ref a_o_skips, .ref a_o_wheelTold, .int o_trades, .int o_people, .int o_draftTrades, .int o_draftPeople, .int o_isShut, .ref a_o_tunes, .ref a_o_s, .ref a_o_spare, .ref a_o_kept, .ref a_o_isKept, .ref a_o_makes, .ref a_o_works, .ref a_o_order, .int o_falling]))]) hK hN hA hS hP hD [0] rfl rfl (q0 := 0) (ci := 5) rfl rfl rfl) rfl rfl hl.1 rfl (lv_room (Nat.le_of_ble_eq_true rfl)) dX5_readsItem_203 ⟨Nat.zero_le _, Nat.zero_le _⟩) hP hD hS hA [0] rfl rfl rfl (fun H locs hP hD hS => ?_)
          have hP : va_P (dC, dI) vwCl [(a_o, .inr (5, [.int o_thrown, .long o_trace, .ref a_o_text, .int o_typed, .int o_next_11, .int o_token_12, .int o_place_13, .int o_value_14, .int o_fault_15, .ref a_o_need, .ref a_o_made, .ref a_o_skillTold, .ref a_o_placeTold, .ref a_o_skips, .ref a_o_wheelTold, .int o_trades, .int o_people, .int o_draftTrades, .int o_draftPeople, .int o_isShut, .ref a_o_tunes, .ref a_o_s, .ref a_o_spare, .ref a_o_kept, .ref a_o_isKept, .ref a_o_makes, .ref a_o_works, .ref a_o_order, .int o_falling])), (a_o_text, .inl (cI, 400, .inl o_text)), (a_o_need, .inl (cI, 12, .inl o_need)), (a_o_made, .inl (cI, 12, .inl o_made)), (a_o_skillTold, .inl (cI, 72, .inl o_skillTold)), (a_o_placeTold, .inl (cI, 12, .inl o_placeTold)), (a_o_skips, .inl (cI, 12, .inl o_skips)), (a_o_wheelTold, .inl (cI, 12, .inl o_wheelTold))] H := hP
          have hD : va_D A [(a_o, .inr (5, [.int o_thrown, .long o_trace, .ref a_o_text, .int o_typed, .int o_next_11, .int o_token_12, .int o_place_13, .int o_value_14, .int o_fault_15, .ref a_o_need, .ref a_o_made, .ref a_o_skillTold, .ref a_o_placeTold, .ref a_o_skips, .ref a_o_wheelTold, .int o_trades, .int o_people, .int o_draftTrades, .int o_draftPeople, .int o_isShut, .ref a_o_tunes, .ref a_o_s, .ref a_o_spare, .ref a_o_kept, .ref a_o_isKept, .ref a_o_makes, .ref a_o_works, .ref a_o_order, .int o_falling])), (a_o_text, .inl (cI, 400, .inl o_text)), (a_o_need, .inl (cI, 12, .inl o_need)), (a_o_made, .inl (cI, 12, .inl o_made)), (a_o_skillTold, .inl (cI, 72, .inl o_skillTold)), (a_o_placeTold, .inl (cI, 12, .inl o_placeTold)), (a_o_skips, .inl (cI, 12, .inl o_skips)), (a_o_wheelTold, .inl (cI, 12, .inl o_wheelTold))] := hD
          refine lv_if_eq (tgt := 233) hx hb dX5_readsItem_206 (by decide) (fun c_18 => ?_) (fun c_18 => ?_)
          · have hf := pit hf c_18
            refine lv_aload_n hx hb dX5_readsItem_233 rfl (lv_at hl 3 rfl) ?_
            obtain ⟨r_19, hc, hf⟩ := pb1 hf
            refine gCi (va_runV (As := []) (rest := []) hF (kX5_isWell l dC dI Z cC cI cZ cW a_o a_o_text a_o_need a_o_made a_o_skillTold a_o_placeTold a_o_skips a_o_wheelTold a_o_tunes a_o_s a_o_spare a_o_kept a_o_isKept a_o_makes a_o_works a_o_order _ o_thrown o_trace o_typed o_next_11 o_token_12 o_place_13 o_value_14 o_fault_15 o_trades o_people o_draftTrades o_draftPeople o_isShut o_falling  N r_19 hc) (cwV 0 hts gX5_readsItem_X5_isWell rfl rfl rfl (by decide +kernel) ⟨Nat.le_of_ble_eq_true rfl, Nat.le_of_ble_eq_true rfl⟩) (gPV (wc := [(a_o, .inr (5, [.int o_thrown, .long o_trace, .ref a_o_text, .int o_typed, .int o_next_11, .int o_token_12, .int o_place_13, .int o_value_14, .int o_fault_15, .ref a_o_need, .ref a_o_made, .ref a_o_skillTold, .ref a_o_placeTold, .ref a_o_skips, .ref a_o_wheelTold, .int o_trades, .int o_people, .int o_draftTrades, .int o_draftPeople, .int o_isShut, .ref a_o_tunes, .ref a_o_s, .ref a_o_spare, .ref a_o_kept, .ref a_o_isKept, .ref a_o_makes, .ref a_o_works, .ref a_o_order, .int o_falling]))]) hK hN hA hS hP hD [0] rfl rfl (q0 := 0) (ci := 5) rfl rfl rfl) rfl rfl hl.1 rfl (lv_room (Nat.le_of_ble_eq_true rfl)) dX5_readsItem_234 ⟨Nat.zero_le _, Nat.zero_le _⟩) hP hD hS hA [0] rfl rfl rfl (fun H locs hP hD hS => ?_)
            have hP : va_P (dC, dI) vwCl [(a_o, .inr (5, [.int o_thrown, .long o_trace, .ref a_o_text, .int o_typed, .int o_next_11, .int o_token_12, .int o_place_13, .int o_value_14, .int o_fault_15, .ref a_o_need, .ref a_o_made, .ref a_o_skillTold, .ref a_o_placeTold, .ref a_o_skips, .ref a_o_wheelTold, .int o_trades, .int o_people, .int o_draftTrades, .int o_draftPeople, .int o_isShut, .ref a_o_tunes, .ref a_o_s, .ref a_o_spare, .ref a_o_kept, .ref a_o_isKept, .ref a_o_makes, .ref a_o_works, .ref a_o_order, .int o_falling])), (a_o_text, .inl (cI, 400, .inl o_text)), (a_o_need, .inl (cI, 12, .inl o_need)), (a_o_made, .inl (cI, 12, .inl o_made)), (a_o_skillTold, .inl (cI, 72, .inl o_skillTold)), (a_o_placeTold, .inl (cI, 12, .inl o_placeTold)), (a_o_skips, .inl (cI, 12, .inl o_skips)), (a_o_wheelTold, .inl (cI, 12, .inl o_wheelTold))] H := hP
            have hD : va_D A [(a_o, .inr (5, [.int o_thrown, .long o_trace, .ref a_o_text, .int o_typed, .int o_next_11, .int o_token_12, .int o_place_13, .int o_value_14, .int o_fault_15, .ref a_o_need, .ref a_o_made, .ref a_o_skillTold, .ref a_o_placeTold, .ref a_o_skips, .ref a_o_wheelTold, .int o_trades, .int o_people, .int o_draftTrades, .int o_draftPeople, .int o_isShut, .ref a_o_tunes, .ref a_o_s, .ref a_o_spare, .ref a_o_kept, .ref a_o_isKept, .ref a_o_makes, .ref a_o_works, .ref a_o_order, .int o_falling])), (a_o_text, .inl (cI, 400, .inl o_text)), (a_o_need, .inl (cI, 12, .inl o_need)), (a_o_made, .inl (cI, 12, .inl o_made)), (a_o_skillTold, .inl (cI, 72, .inl o_skillTold)), (a_o_placeTold, .inl (cI, 12, .inl o_placeTold)), (a_o_skips, .inl (cI, 12, .inl o_skips)), (a_o_wheelTold, .inl (cI, 12, .inl o_wheelTold))] := hD
            refine lv_if_eq (tgt := 263) hx hb dX5_readsItem_237 (by decide) (fun c_20 => ?_) (fun c_20 => ?_)
            · have hf := pit hf c_20
              refine lv_aload_n hx hb dX5_readsItem_263 rfl (lv_at hl 3 rfl) ?_
              obtain ⟨r_21, hc, hf⟩ := pb1 hf
              refine gCi (va_runV (As := []) (rest := []) hF (kX5_isWell l dC dI Z cC cI cZ cW a_o a_o_text a_o_need a_o_made a_o_skillTold a_o_placeTold a_o_skips a_o_wheelTold a_o_tunes a_o_s a_o_spare a_o_kept a_o_isKept a_o_makes a_o_works a_o_order _ o_thrown o_trace o_typed o_next_11 o_token_12 o_place_13 o_value_14 o_fault_15 o_trades o_people o_draftTrades o_draftPeople o_isShut o_falling  N r_21 hc) (cwV 0 hts gX5_readsItem_X5_isWell rfl rfl rfl (by decide +kernel) ⟨Nat.le_of_ble_eq_true rfl, Nat.le_of_ble_eq_true rfl⟩) (gPV (wc := [(a_o, .inr (5, [.int o_thrown, .long o_trace, .ref a_o_text, .int o_typed, .int o_next_11, .int o_token_12, .int o_place_13, .int o_value_14, .int o_fault_15, .ref a_o_need, .ref a_o_made, .ref a_o_skillTold, .ref a_o_placeTold, .ref a_o_skips, .ref a_o_wheelTold, .int o_trades, .int o_people, .int o_draftTrades, .int o_draftPeople, .int o_isShut, .ref a_o_tunes, .ref a_o_s, .ref a_o_spare, .ref a_o_kept, .ref a_o_isKept, .ref a_o_makes, .ref a_o_works, .ref a_o_order, .int o_falling]))]) hK hN hA hS hP hD [0] rfl rfl (q0 := 0) (ci := 5) rfl rfl rfl) rfl rfl hl.1 rfl (lv_room (Nat.le_of_ble_eq_true rfl)) dX5_readsItem_264 ⟨Nat.zero_le _, Nat.zero_le _⟩) hP hD hS hA [0] rfl rfl rfl (fun H locs hP hD hS => ?_)
              have hP : va_P (dC, dI) vwCl [(a_o, .inr (5, [.int o_thrown, .long o_trace, .ref a_o_text, .int o_typed, .int o_next_11, .int o_token_12, .int o_place_13, .int o_value_14, .int o_fault_15, .ref a_o_need, .ref a_o_made, .ref a_o_skillTold, .ref a_o_placeTold, .ref a_o_skips, .ref a_o_wheelTold, .int o_trades, .int o_people, .int o_draftTrades, .int o_draftPeople, .int o_isShut, .ref a_o_tunes, .ref a_o_s, .ref a_o_spare, .ref a_o_kept, .ref a_o_isKept, .ref a_o_makes, .ref a_o_works, .ref a_o_order, .int o_falling])), (a_o_text, .inl (cI, 400, .inl o_text)), (a_o_need, .inl (cI, 12, .inl o_need)), (a_o_made, .inl (cI, 12, .inl o_made)), (a_o_skillTold, .inl (cI, 72, .inl o_skillTold)), (a_o_placeTold, .inl (cI, 12, .inl o_placeTold)), (a_o_skips, .inl (cI, 12, .inl o_skips)), (a_o_wheelTold, .inl (cI, 12, .inl o_wheelTold))] H := hP
              have hD : va_D A [(a_o, .inr (5, [.int o_thrown, .long o_trace, .ref a_o_text, .int o_typed, .int o_next_11, .int o_token_12, .int o_place_13, .int o_value_14, .int o_fault_15, .ref a_o_need, .ref a_o_made, .ref a_o_skillTold, .ref a_o_placeTold, .ref a_o_skips, .ref a_o_wheelTold, .int o_trades, .int o_people, .int o_draftTrades, .int o_draftPeople, .int o_isShut, .ref a_o_tunes, .ref a_o_s, .ref a_o_spare, .ref a_o_kept, .ref a_o_isKept, .ref a_o_makes, .ref a_o_works, .ref a_o_order, .int o_falling])), (a_o_text, .inl (cI, 400, .inl o_text)), (a_o_need, .inl (cI, 12, .inl o_need)), (a_o_made, .inl (cI, 12, .inl o_made)), (a_o_skillTold, .inl (cI, 72, .inl o_skillTold)), (a_o_placeTold, .inl (cI, 12, .inl o_placeTold)), (a_o_skips, .inl (cI, 12, .inl o_skips)), (a_o_wheelTold, .inl (cI, 12, .inl o_wheelTold))] := hD
              refine lv_if_eq (tgt := 280) hx hb dX5_readsItem_267 (by decide) (fun c_22 => ?_) (fun c_22 => ?_)
              · have hf := pit hf c_22
                refine lv_aload_n hx hb dX5_readsItem_280 rfl (lv_at hl 3 rfl) ?_
                refine lv_aload_n hx hb dX5_readsItem_281 rfl (lv_at hl 3 rfl) ?_
                refine va_get (D := (dC, dI)) (ci := 5) (v := .int o_isShut) (C := RX5) (T := TX5) (N := 29) hx hb hts uX5_readsItem_X5 hown hK hP 0 rfl rfl 19 (by decide) (hts _ mX5_readsItem_2) (fun _ h9 => h9) rfl dX5_readsItem_282 ?_
                refine lv_if_ne (tgt := 293) hx hb dX5_readsItem_285 (by decide) (fun c_23 => ?_) (fun c_23 => ?_)
                · have hf := pif hf c_23
                  refine lv_iconst (v := (1 : Int32)) hx hb dX5_readsItem_293 (by decide) ?_
                  refine lv_goto (tgt := 298) hx hb dX5_readsItem_294 (by decide) ?_
                  refine va_put (D := (dC, dI)) (ci := 5) (v := .int (1 : Int32)) (ty := .boolean) (C := RX5) (T := TX5) (N := 29) hx hb hts uX5_readsItem_X5 tyX5 tyX5_ok nmX5 hown hK hP hD hS 0 rfl rfl 19 (by decide) (hts _ mX5_readsItem_2) (fun _ h9 => h9) rfl (by decide +kernel) rfl rfl (Nat.le_of_ble_eq_true rfl) dX5_readsItem_298 (fun H locs hP hD hS => ?_)
                  have hP : va_P (dC, dI) vwCl [(a_o, .inr (5, [.int o_thrown, .long o_trace, .ref a_o_text, .int o_typed, .int o_next_11, .int o_token_12, .int o_place_13, .int o_value_14, .int o_fault_15, .ref a_o_need, .ref a_o_made, .ref a_o_skillTold, .ref a_o_placeTold, .ref a_o_skips, .ref a_o_wheelTold, .int o_trades, .int o_people, .int o_draftTrades, .int o_draftPeople, .int (1 : Int32), .ref a_o_tunes, .ref a_o_s, .ref a_o_spare, .ref a_o_kept, .ref a_o_isKept, .ref a_o_makes, .ref a_o_works, .ref a_o_order, .int o_falling])), (a_o_text, .inl (cI, 400, .inl o_text)), (a_o_need, .inl (cI, 12, .inl o_need)), (a_o_made, .inl (cI, 12, .inl o_made)), (a_o_skillTold, .inl (cI, 72, .inl o_skillTold)), (a_o_placeTold, .inl (cI, 12, .inl o_placeTold)), (a_o_skips, .inl (cI, 12, .inl o_skips)), (a_o_wheelTold, .inl (cI, 12, .inl o_wheelTold))] H := hP
                  have hD : va_D A [(a_o, .inr (5, [.int o_thrown, .long o_trace, .ref a_o_text, .int o_typed, .int o_next_11, .int o_token_12, .int o_place_13, .int o_value_14, .int o_fault_15, .ref a_o_need, .ref a_o_made, .ref a_o_skillTold, .ref a_o_placeTold, .ref a_o_skips, .ref a_o_wheelTold, .int o_trades, .int o_people, .int o_draftTrades, .int o_draftPeople, .int (1 : Int32), .ref a_o_tunes, .ref a_o_s, .ref a_o_spare, .ref a_o_kept, .ref a_o_isKept, .ref a_o_makes, .ref a_o_works, .ref a_o_order, .int o_falling])), (a_o_text, .inl (cI, 400, .inl o_text)), (a_o_need, .inl (cI, 12, .inl o_need)), (a_o_made, .inl (cI, 12, .inl o_made)), (a_o_skillTold, .inl (cI, 72, .inl o_skillTold)), (a_o_placeTold, .inl (cI, 12, .inl o_placeTold)), (a_o_skips, .inl (cI, 12, .inl o_skips)), (a_o_wheelTold, .inl (cI, 12, .inl o_wheelTold))] := hD
                  have q0 := Option.some.inj hf
                  obtain ⟨e0, q1⟩ := Prod.mk.inj q0
                  obtain ⟨e1, q2⟩ := Prod.mk.inj q1
                  obtain ⟨e2, q3⟩ := Prod.mk.inj q2
                  obtain ⟨e3, q4⟩ := Prod.mk.inj q3
                  obtain ⟨e4, q5⟩ := Prod.mk.inj q4
                  obtain ⟨e5, q6⟩ := Prod.mk.inj q5
                  obtain ⟨e6, q7⟩ := Prod.mk.inj q6
                  obtain ⟨e7, q8⟩ := Prod.mk.inj q7
                  obtain ⟨e8, q9⟩ := Prod.mk.inj q8
                  obtain ⟨e9, q10⟩ := Prod.mk.inj q9
                  obtain ⟨e10, q11⟩ := Prod.mk.inj q10
                  obtain ⟨e11, q12⟩ := Prod.mk.inj q11
                  obtain ⟨e12, q13⟩ := Prod.mk.inj q12
                  subst e0
                  subst e1
                  subst e2
                  subst e3
                  subst e4
                  subst e5
                  subst e6
                  subst e7
                  subst e8
                  subst e9
                  subst e10
                  subst e11
                  subst e12
                  subst q13
                  exact gRv hx hb hr hlocks hP hS dX5_readsItem_301
                · have hf := pit hf c_23
                  refine lv_iload_n hx hb dX5_readsItem_288 rfl (lv_at hl 4 rfl) ?_
                  refine lv_iconst (v := (1 : Int32)) hx hb dX5_readsItem_289 (by decide) ?_
                  refine lv_icmp_le (tgt := 297) hx hb dX5_readsItem_290 (by decide) (fun c_24 => ?_) (fun c_24 => ?_)
                  · have hf := pit hf c_24
                    refine lv_iconst (v := (0 : Int32)) hx hb dX5_readsItem_297 (by decide) ?_
                    refine va_put (D := (dC, dI)) (ci := 5) (v := .int (0 : Int32)) (ty := .boolean) (C := RX5) (T := TX5) (N := 29) hx hb hts uX5_readsItem_X5 tyX5 tyX5_ok nmX5 hown hK hP hD hS 0 rfl rfl 19 (by decide) (hts _ mX5_readsItem_2) (fun _ h9 => h9) rfl (by decide +kernel) rfl rfl (Nat.le_of_ble_eq_true rfl) dX5_readsItem_298 (fun H locs hP hD hS => ?_)
                    have hP : va_P (dC, dI) vwCl [(a_o, .inr (5, [.int o_thrown, .long o_trace, .ref a_o_text, .int o_typed, .int o_next_11, .int o_token_12, .int o_place_13, .int o_value_14, .int o_fault_15, .ref a_o_need, .ref a_o_made, .ref a_o_skillTold, .ref a_o_placeTold, .ref a_o_skips, .ref a_o_wheelTold, .int o_trades, .int o_people, .int o_draftTrades, .int o_draftPeople, .int (0 : Int32), .ref a_o_tunes, .ref a_o_s, .ref a_o_spare, .ref a_o_kept, .ref a_o_isKept, .ref a_o_makes, .ref a_o_works, .ref a_o_order, .int o_falling])), (a_o_text, .inl (cI, 400, .inl o_text)), (a_o_need, .inl (cI, 12, .inl o_need)), (a_o_made, .inl (cI, 12, .inl o_made)), (a_o_skillTold, .inl (cI, 72, .inl o_skillTold)), (a_o_placeTold, .inl (cI, 12, .inl o_placeTold)), (a_o_skips, .inl (cI, 12, .inl o_skips)), (a_o_wheelTold, .inl (cI, 12, .inl o_wheelTold))] H := hP
                    have hD : va_D A [(a_o, .inr (5, [.int o_thrown, .long o_trace, .ref a_o_text, .int o_typed, .int o_next_11, .int o_token_12, .int o_place_13, .int o_value_14, .int o_fault_15, .ref a_o_need, .ref a_o_made, .ref a_o_skillTold, .ref a_o_placeTold, .ref a_o_skips, .ref a_o_wheelTold, .int o_trades, .int o_people, .int o_draftTrades, .int o_draftPeople, .int (0 : Int32), .ref a_o_tunes, .ref a_o_s, .ref a_o_spare, .ref a_o_kept, .ref a_o_isKept, .ref a_o_makes, .ref a_o_works, .ref a_o_order, .int o_falling])), (a_o_text, .inl (cI, 400, .inl o_text)), (a_o_need, .inl (cI, 12, .inl o_need)), (a_o_made, .inl (cI, 12, .inl o_made)), (a_o_skillTold, .inl (cI, 72, .inl o_skillTold)), (a_o_placeTold, .inl (cI, 12, .inl o_placeTold)), (a_o_skips, .inl (cI, 12, .inl o_skips)), (a_o_wheelTold, .inl (cI, 12, .inl o_wheelTold))] := hD
                    have q0 := Option.some.inj hf
                    obtain ⟨e0, q1⟩ := Prod.mk.inj q0
                    obtain ⟨e1, q2⟩ := Prod.mk.inj q1
                    obtain ⟨e2, q3⟩ := Prod.mk.inj q2
                    obtain ⟨e3, q4⟩ := Prod.mk.inj q3
                    obtain ⟨e4, q5⟩ := Prod.mk.inj q4
                    obtain ⟨e5, q6⟩ := Prod.mk.inj q5
                    obtain ⟨e6, q7⟩ := Prod.mk.inj q6
                    obtain ⟨e7, q8⟩ := Prod.mk.inj q7
                    obtain ⟨e8, q9⟩ := Prod.mk.inj q8
                    obtain ⟨e9, q10⟩ := Prod.mk.inj q9
                    obtain ⟨e10, q11⟩ := Prod.mk.inj q10
                    obtain ⟨e11, q12⟩ := Prod.mk.inj q11
                    obtain ⟨e12, q13⟩ := Prod.mk.inj q12
                    subst e0
                    subst e1
                    subst e2
                    subst e3
                    subst e4
                    subst e5
                    subst e6
                    subst e7
                    subst e8
                    subst e9
                    subst e10
                    subst e11
                    subst e12
                    subst q13
                    exact gRv hx hb hr hlocks hP hS dX5_readsItem_301
                  · have hf := pif hf c_24
                    refine lv_iconst (v := (1 : Int32)) hx hb dX5_readsItem_293 (by decide) ?_
                    refine lv_goto (tgt := 298) hx hb dX5_readsItem_294 (by decide) ?_
                    refine va_put (D := (dC, dI)) (ci := 5) (v := .int (1 : Int32)) (ty := .boolean) (C := RX5) (T := TX5) (N := 29) hx hb hts uX5_readsItem_X5 tyX5 tyX5_ok nmX5 hown hK hP hD hS 0 rfl rfl 19 (by decide) (hts _ mX5_readsItem_2) (fun _ h9 => h9) rfl (by decide +kernel) rfl rfl (Nat.le_of_ble_eq_true rfl) dX5_readsItem_298 (fun H locs hP hD hS => ?_)
                    have hP : va_P (dC, dI) vwCl [(a_o, .inr (5, [.int o_thrown, .long o_trace, .ref a_o_text, .int o_typed, .int o_next_11, .int o_token_12, .int o_place_13, .int o_value_14, .int o_fault_15, .ref a_o_need, .ref a_o_made, .ref a_o_skillTold, .ref a_o_placeTold, .ref a_o_skips, .ref a_o_wheelTold, .int o_trades, .int o_people, .int o_draftTrades, .int o_draftPeople, .int (1 : Int32), .ref a_o_tunes, .ref a_o_s, .ref a_o_spare, .ref a_o_kept, .ref a_o_isKept, .ref a_o_makes, .ref a_o_works, .ref a_o_order, .int o_falling])), (a_o_text, .inl (cI, 400, .inl o_text)), (a_o_need, .inl (cI, 12, .inl o_need)), (a_o_made, .inl (cI, 12, .inl o_made)), (a_o_skillTold, .inl (cI, 72, .inl o_skillTold)), (a_o_placeTold, .inl (cI, 12, .inl o_placeTold)), (a_o_skips, .inl (cI, 12, .inl o_skips)), (a_o_wheelTold, .inl (cI, 12, .inl o_wheelTold))] H := hP
                    have hD : va_D A [(a_o, .inr (5, [.int o_thrown, .long o_trace, .ref a_o_text, .int o_typed, .int o_next_11, .int o_token_12, .int o_place_13, .int o_value_14, .int o_fault_15, .ref a_o_need, .ref a_o_made, .ref a_o_skillTold, .ref a_o_placeTold, .ref a_o_skips, .ref a_o_wheelTold, .int o_trades, .int o_people, .int o_draftTrades, .int o_draftPeople, .int (1 : Int32), .ref a_o_tunes, .ref a_o_s, .ref a_o_spare, .ref a_o_kept, .ref a_o_isKept, .ref a_o_makes, .ref a_o_works, .ref a_o_order, .int o_falling])), (a_o_text, .inl (cI, 400, .inl o_text)), (a_o_need, .inl (cI, 12, .inl o_need)), (a_o_made, .inl (cI, 12, .inl o_made)), (a_o_skillTold, .inl (cI, 72, .inl o_skillTold)), (a_o_placeTold, .inl (cI, 12, .inl o_placeTold)), (a_o_skips, .inl (cI, 12, .inl o_skips)), (a_o_wheelTold, .inl (cI, 12, .inl o_wheelTold))] := hD
                    have q0 := Option.some.inj hf
                    obtain ⟨e0, q1⟩ := Prod.mk.inj q0
                    obtain ⟨e1, q2⟩ := Prod.mk.inj q1
                    obtain ⟨e2, q3⟩ := Prod.mk.inj q2
                    obtain ⟨e3, q4⟩ := Prod.mk.inj q3
                    obtain ⟨e4, q5⟩ := Prod.mk.inj q4
                    obtain ⟨e5, q6⟩ := Prod.mk.inj q5
                    obtain ⟨e6, q7⟩ := Prod.mk.inj q6
                    obtain ⟨e7, q8⟩ := Prod.mk.inj q7
                    obtain ⟨e8, q9⟩ := Prod.mk.inj q8
                    obtain ⟨e9, q10⟩ := Prod.mk.inj q9
                    obtain ⟨e10, q11⟩ := Prod.mk.inj q10
                    obtain ⟨e11, q12⟩ := Prod.mk.inj q11
                    obtain ⟨e12, q13⟩ := Prod.mk.inj q12
                    subst e0
                    subst e1
                    subst e2
                    subst e3
                    subst e4
                    subst e5
                    subst e6
                    subst e7
                    subst e8
                    subst e9
                    subst e10
                    subst e11
                    subst e12
                    subst q13
                    exact gRv hx hb hr hlocks hP hS dX5_readsItem_301
              · have hf := pif hf c_22
                refine lv_aload_n hx hb dX5_readsItem_270 rfl (lv_at hl 3 rfl) ?_
                refine va_get (D := (dC, dI)) (ci := 5) (v := .ref a_o_placeTold) (C := RX5) (T := TX5) (N := 29) hx hb hts uX5_readsItem_X5 hown hK hP 0 rfl rfl 12 (by decide) (hts _ mX5_readsItem_3) (fun _ h9 => h9) rfl dX5_readsItem_271 ?_
                refine lv_bipush (v := (6 : Int32)) hx hb dX5_readsItem_274 (by decide) ?_
                refine lv_iload_n hx hb dX5_readsItem_276 rfl (lv_at hl 2 rfl) ?_
                refine lv_iadd hx hb dX5_readsItem_277 ?_
                refine lv_iload_n hx hb dX5_readsItem_278 rfl (lv_at hl 1 rfl) ?_
                obtain ⟨h_25, hf⟩ := pgd hf
                refine va_iast hx hb hK hP hD hS 5 1 rfl rfl h_25 dX5_readsItem_279 (fun H locs hP hD hS => ?_)
                have hP : va_P (dC, dI) vwCl [(a_o, .inr (5, [.int o_thrown, .long o_trace, .ref a_o_text, .int o_typed, .int o_next_11, .int o_token_12, .int o_place_13, .int o_value_14, .int o_fault_15, .ref a_o_need, .ref a_o_made, .ref a_o_skillTold, .ref a_o_placeTold, .ref a_o_skips, .ref a_o_wheelTold, .int o_trades, .int o_people, .int o_draftTrades, .int o_draftPeople, .int o_isShut, .ref a_o_tunes, .ref a_o_s, .ref a_o_spare, .ref a_o_kept, .ref a_o_isKept, .ref a_o_makes, .ref a_o_works, .ref a_o_order, .int o_falling])), (a_o_text, .inl (cI, 400, .inl o_text)), (a_o_need, .inl (cI, 12, .inl o_need)), (a_o_made, .inl (cI, 12, .inl o_made)), (a_o_skillTold, .inl (cI, 72, .inl o_skillTold)), (a_o_placeTold, .inl (cI, 12, .inl (upd o_placeTold ((6 : Int32) + r_4).toNatClampNeg r_10))), (a_o_skips, .inl (cI, 12, .inl o_skips)), (a_o_wheelTold, .inl (cI, 12, .inl o_wheelTold))] H := hP
                have hD : va_D A [(a_o, .inr (5, [.int o_thrown, .long o_trace, .ref a_o_text, .int o_typed, .int o_next_11, .int o_token_12, .int o_place_13, .int o_value_14, .int o_fault_15, .ref a_o_need, .ref a_o_made, .ref a_o_skillTold, .ref a_o_placeTold, .ref a_o_skips, .ref a_o_wheelTold, .int o_trades, .int o_people, .int o_draftTrades, .int o_draftPeople, .int o_isShut, .ref a_o_tunes, .ref a_o_s, .ref a_o_spare, .ref a_o_kept, .ref a_o_isKept, .ref a_o_makes, .ref a_o_works, .ref a_o_order, .int o_falling])), (a_o_text, .inl (cI, 400, .inl o_text)), (a_o_need, .inl (cI, 12, .inl o_need)), (a_o_made, .inl (cI, 12, .inl o_made)), (a_o_skillTold, .inl (cI, 72, .inl o_skillTold)), (a_o_placeTold, .inl (cI, 12, .inl (upd o_placeTold ((6 : Int32) + r_4).toNatClampNeg r_10))), (a_o_skips, .inl (cI, 12, .inl o_skips)), (a_o_wheelTold, .inl (cI, 12, .inl o_wheelTold))] := hD
                refine lv_aload_n hx hb dX5_readsItem_280 rfl (lv_at hl 3 rfl) ?_
                refine lv_aload_n hx hb dX5_readsItem_281 rfl (lv_at hl 3 rfl) ?_
                refine va_get (D := (dC, dI)) (ci := 5) (v := .int o_isShut) (C := RX5) (T := TX5) (N := 29) hx hb hts uX5_readsItem_X5 hown hK hP 0 rfl rfl 19 (by decide) (hts _ mX5_readsItem_2) (fun _ h9 => h9) rfl dX5_readsItem_282 ?_
                refine lv_if_ne (tgt := 293) hx hb dX5_readsItem_285 (by decide) (fun c_26 => ?_) (fun c_26 => ?_)
                · have hf := pif hf c_26
                  refine lv_iconst (v := (1 : Int32)) hx hb dX5_readsItem_293 (by decide) ?_
                  refine lv_goto (tgt := 298) hx hb dX5_readsItem_294 (by decide) ?_
                  refine va_put (D := (dC, dI)) (ci := 5) (v := .int (1 : Int32)) (ty := .boolean) (C := RX5) (T := TX5) (N := 29) hx hb hts uX5_readsItem_X5 tyX5 tyX5_ok nmX5 hown hK hP hD hS 0 rfl rfl 19 (by decide) (hts _ mX5_readsItem_2) (fun _ h9 => h9) rfl (by decide +kernel) rfl rfl (Nat.le_of_ble_eq_true rfl) dX5_readsItem_298 (fun H locs hP hD hS => ?_)
                  have hP : va_P (dC, dI) vwCl [(a_o, .inr (5, [.int o_thrown, .long o_trace, .ref a_o_text, .int o_typed, .int o_next_11, .int o_token_12, .int o_place_13, .int o_value_14, .int o_fault_15, .ref a_o_need, .ref a_o_made, .ref a_o_skillTold, .ref a_o_placeTold, .ref a_o_skips, .ref a_o_wheelTold, .int o_trades, .int o_people, .int o_draftTrades, .int o_draftPeople, .int (1 : Int32), .ref a_o_tunes, .ref a_o_s, .ref a_o_spare, .ref a_o_kept, .ref a_o_isKept, .ref a_o_makes, .ref a_o_works, .ref a_o_order, .int o_falling])), (a_o_text, .inl (cI, 400, .inl o_text)), (a_o_need, .inl (cI, 12, .inl o_need)), (a_o_made, .inl (cI, 12, .inl o_made)), (a_o_skillTold, .inl (cI, 72, .inl o_skillTold)), (a_o_placeTold, .inl (cI, 12, .inl (upd o_placeTold ((6 : Int32) + r_4).toNatClampNeg r_10))), (a_o_skips, .inl (cI, 12, .inl o_skips)), (a_o_wheelTold, .inl (cI, 12, .inl o_wheelTold))] H := hP
                  have hD : va_D A [(a_o, .inr (5, [.int o_thrown, .long o_trace, .ref a_o_text, .int o_typed, .int o_next_11, .int o_token_12, .int o_place_13, .int o_value_14, .int o_fault_15, .ref a_o_need, .ref a_o_made, .ref a_o_skillTold, .ref a_o_placeTold, .ref a_o_skips, .ref a_o_wheelTold, .int o_trades, .int o_people, .int o_draftTrades, .int o_draftPeople, .int (1 : Int32), .ref a_o_tunes, .ref a_o_s, .ref a_o_spare, .ref a_o_kept, .ref a_o_isKept, .ref a_o_makes, .ref a_o_works, .ref a_o_order, .int o_falling])), (a_o_text, .inl (cI, 400, .inl o_text)), (a_o_need, .inl (cI, 12, .inl o_need)), (a_o_made, .inl (cI, 12, .inl o_made)), (a_o_skillTold, .inl (cI, 72, .inl o_skillTold)), (a_o_placeTold, .inl (cI, 12, .inl (upd o_placeTold ((6 : Int32) + r_4).toNatClampNeg r_10))), (a_o_skips, .inl (cI, 12, .inl o_skips)), (a_o_wheelTold, .inl (cI, 12, .inl o_wheelTold))] := hD
                  have q0 := Option.some.inj hf
                  obtain ⟨e0, q1⟩ := Prod.mk.inj q0
                  obtain ⟨e1, q2⟩ := Prod.mk.inj q1
                  obtain ⟨e2, q3⟩ := Prod.mk.inj q2
                  obtain ⟨e3, q4⟩ := Prod.mk.inj q3
                  obtain ⟨e4, q5⟩ := Prod.mk.inj q4
                  obtain ⟨e5, q6⟩ := Prod.mk.inj q5
                  obtain ⟨e6, q7⟩ := Prod.mk.inj q6
                  obtain ⟨e7, q8⟩ := Prod.mk.inj q7
                  obtain ⟨e8, q9⟩ := Prod.mk.inj q8
                  obtain ⟨e9, q10⟩ := Prod.mk.inj q9
                  obtain ⟨e10, q11⟩ := Prod.mk.inj q10
                  obtain ⟨e11, q12⟩ := Prod.mk.inj q11
                  obtain ⟨e12, q13⟩ := Prod.mk.inj q12
                  subst e0
                  subst e1
                  subst e2
                  subst e3
                  subst e4
                  subst e5
                  subst e6
                  subst e7
                  subst e8
                  subst e9
                  subst e10
                  subst e11
                  subst e12
                  subst q13
                  exact gRv hx hb hr hlocks hP hS dX5_readsItem_301
                · have hf := pit hf c_26
                  refine lv_iload_n hx hb dX5_readsItem_288 rfl (lv_at hl 4 rfl) ?_
                  refine lv_iconst (v := (1 : Int32)) hx hb dX5_readsItem_289 (by decide) ?_
                  refine lv_icmp_le (tgt := 297) hx hb dX5_readsItem_290 (by decide) (fun c_27 => ?_) (fun c_27 => ?_)
                  · have hf := pit hf c_27
                    refine lv_iconst (v := (0 : Int32)) hx hb dX5_readsItem_297 (by decide) ?_
                    refine va_put (D := (dC, dI)) (ci := 5) (v := .int (0 : Int32)) (ty := .boolean) (C := RX5) (T := TX5) (N := 29) hx hb hts uX5_readsItem_X5 tyX5 tyX5_ok nmX5 hown hK hP hD hS 0 rfl rfl 19 (by decide) (hts _ mX5_readsItem_2) (fun _ h9 => h9) rfl (by decide +kernel) rfl rfl (Nat.le_of_ble_eq_true rfl) dX5_readsItem_298 (fun H locs hP hD hS => ?_)
                    have hP : va_P (dC, dI) vwCl [(a_o, .inr (5, [.int o_thrown, .long o_trace, .ref a_o_text, .int o_typed, .int o_next_11, .int o_token_12, .int o_place_13, .int o_value_14, .int o_fault_15, .ref a_o_need, .ref a_o_made, .ref a_o_skillTold, .ref a_o_placeTold, .ref a_o_skips, .ref a_o_wheelTold, .int o_trades, .int o_people, .int o_draftTrades, .int o_draftPeople, .int (0 : Int32), .ref a_o_tunes, .ref a_o_s, .ref a_o_spare, .ref a_o_kept, .ref a_o_isKept, .ref a_o_makes, .ref a_o_works, .ref a_o_order, .int o_falling])), (a_o_text, .inl (cI, 400, .inl o_text)), (a_o_need, .inl (cI, 12, .inl o_need)), (a_o_made, .inl (cI, 12, .inl o_made)), (a_o_skillTold, .inl (cI, 72, .inl o_skillTold)), (a_o_placeTold, .inl (cI, 12, .inl (upd o_placeTold ((6 : Int32) + r_4).toNatClampNeg r_10))), (a_o_skips, .inl (cI, 12, .inl o_skips)), (a_o_wheelTold, .inl (cI, 12, .inl o_wheelTold))] H := hP
                    have hD : va_D A [(a_o, .inr (5, [.int o_thrown, .long o_trace, .ref a_o_text, .int o_typed, .int o_next_11, .int o_token_12, .int o_place_13, .int o_value_14, .int o_fault_15, .ref a_o_need, .ref a_o_made, .ref a_o_skillTold, .ref a_o_placeTold, .ref a_o_skips, .ref a_o_wheelTold, .int o_trades, .int o_people, .int o_draftTrades, .int o_draftPeople, .int (0 : Int32), .ref a_o_tunes, .ref a_o_s, .ref a_o_spare, .ref a_o_kept, .ref a_o_isKept, .ref a_o_makes, .ref a_o_works, .ref a_o_order, .int o_falling])), (a_o_text, .inl (cI, 400, .inl o_text)), (a_o_need, .inl (cI, 12, .inl o_need)), (a_o_made, .inl (cI, 12, .inl o_made)), (a_o_skillTold, .inl (cI, 72, .inl o_skillTold)), (a_o_placeTold, .inl (cI, 12, .inl (upd o_placeTold ((6 : Int32) + r_4).toNatClampNeg r_10))), (a_o_skips, .inl (cI, 12, .inl o_skips)), (a_o_wheelTold, .inl (cI, 12, .inl o_wheelTold))] := hD
                    have q0 := Option.some.inj hf
                    obtain ⟨e0, q1⟩ := Prod.mk.inj q0
                    obtain ⟨e1, q2⟩ := Prod.mk.inj q1
                    obtain ⟨e2, q3⟩ := Prod.mk.inj q2
                    obtain ⟨e3, q4⟩ := Prod.mk.inj q3
                    obtain ⟨e4, q5⟩ := Prod.mk.inj q4
                    obtain ⟨e5, q6⟩ := Prod.mk.inj q5
                    obtain ⟨e6, q7⟩ := Prod.mk.inj q6
                    obtain ⟨e7, q8⟩ := Prod.mk.inj q7
                    obtain ⟨e8, q9⟩ := Prod.mk.inj q8
                    obtain ⟨e9, q10⟩ := Prod.mk.inj q9
                    obtain ⟨e10, q11⟩ := Prod.mk.inj q10
                    obtain ⟨e11, q12⟩ := Prod.mk.inj q11
                    obtain ⟨e12, q13⟩ := Prod.mk.inj q12
                    subst e0
                    subst e1
                    subst e2
                    subst e3
                    subst e4
                    subst e5
                    subst e6
                    subst e7
                    subst e8
                    subst e9
                    subst e10
                    subst e11
                    subst e12
                    subst q13
                    exact gRv hx hb hr hlocks hP hS dX5_readsItem_301
                  · have hf := pif hf c_27
                    refine lv_iconst (v := (1 : Int32)) hx hb dX5_readsItem_293 (by decide) ?_
                    refine lv_goto (tgt := 298) hx hb dX5_readsItem_294 (by decide) ?_
                    refine va_put (D := (dC, dI)) (ci := 5) (v := .int (1 : Int32)) (ty := .boolean) (C := RX5) (T := TX5) (N := 29) hx hb hts uX5_readsItem_X5 tyX5 tyX5_ok nmX5 hown hK hP hD hS 0 rfl rfl 19 (by decide) (hts _ mX5_readsItem_2) (fun _ h9 => h9) rfl (by decide +kernel) rfl rfl (Nat.le_of_ble_eq_true rfl) dX5_readsItem_298 (fun H locs hP hD hS => ?_)
                    have hP : va_P (dC, dI) vwCl [(a_o, .inr (5, [.int o_thrown, .long o_trace, .ref a_o_text, .int o_typed, .int o_next_11, .int o_token_12, .int o_place_13, .int o_value_14, .int o_fault_15, .ref a_o_need, .ref a_o_made, .ref a_o_skillTold, .ref a_o_placeTold, .ref a_o_skips, .ref a_o_wheelTold, .int o_trades, .int o_people, .int o_draftTrades, .int o_draftPeople, .int (1 : Int32), .ref a_o_tunes, .ref a_o_s, .ref a_o_spare, .ref a_o_kept, .ref a_o_isKept, .ref a_o_makes, .ref a_o_works, .ref a_o_order, .int o_falling])), (a_o_text, .inl (cI, 400, .inl o_text)), (a_o_need, .inl (cI, 12, .inl o_need)), (a_o_made, .inl (cI, 12, .inl o_made)), (a_o_skillTold, .inl (cI, 72, .inl o_skillTold)), (a_o_placeTold, .inl (cI, 12, .inl (upd o_placeTold ((6 : Int32) + r_4).toNatClampNeg r_10))), (a_o_skips, .inl (cI, 12, .inl o_skips)), (a_o_wheelTold, .inl (cI, 12, .inl o_wheelTold))] H := hP
                    have hD : va_D A [(a_o, .inr (5, [.int o_thrown, .long o_trace, .ref a_o_text, .int o_typed, .int o_next_11, .int o_token_12, .int o_place_13, .int o_value_14, .int o_fault_15, .ref a_o_need, .ref a_o_made, .ref a_o_skillTold, .ref a_o_placeTold, .ref a_o_skips, .ref a_o_wheelTold, .int o_trades, .int o_people, .int o_draftTrades, .int o_draftPeople, .int (1 : Int32), .ref a_o_tunes, .ref a_o_s, .ref a_o_spare, .ref a_o_kept, .ref a_o_isKept, .ref a_o_makes, .ref a_o_works, .ref a_o_order, .int o_falling])), (a_o_text, .inl (cI, 400, .inl o_text)), (a_o_need, .inl (cI, 12, .inl o_need)), (a_o_made, .inl (cI, 12, .inl o_made)), (a_o_skillTold, .inl (cI, 72, .inl o_skillTold)), (a_o_placeTold, .inl (cI, 12, .inl (upd o_placeTold ((6 : Int32) + r_4).toNatClampNeg r_10))), (a_o_skips, .inl (cI, 12, .inl o_skips)), (a_o_wheelTold, .inl (cI, 12, .inl o_wheelTold))] := hD
                    have q0 := Option.some.inj hf
                    obtain ⟨e0, q1⟩ := Prod.mk.inj q0
                    obtain ⟨e1, q2⟩ := Prod.mk.inj q1
                    obtain ⟨e2, q3⟩ := Prod.mk.inj q2
                    obtain ⟨e3, q4⟩ := Prod.mk.inj q3
                    obtain ⟨e4, q5⟩ := Prod.mk.inj q4
                    obtain ⟨e5, q6⟩ := Prod.mk.inj q5
                    obtain ⟨e6, q7⟩ := Prod.mk.inj q6
                    obtain ⟨e7, q8⟩ := Prod.mk.inj q7
                    obtain ⟨e8, q9⟩ := Prod.mk.inj q8
                    obtain ⟨e9, q10⟩ := Prod.mk.inj q9
                    obtain ⟨e10, q11⟩ := Prod.mk.inj q10
                    obtain ⟨e11, q12⟩ := Prod.mk.inj q11
                    obtain ⟨e12, q13⟩ := Prod.mk.inj q12
                    subst e0
                    subst e1
                    subst e2
                    subst e3
                    subst e4
                    subst e5
                    subst e6
                    subst e7
                    subst e8
                    subst e9
                    subst e10
                    subst e11
                    subst e12
                    subst q13
                    exact gRv hx hb hr hlocks hP hS dX5_readsItem_301
            · have hf := pif hf c_20
              refine lv_iload_n hx hb dX5_readsItem_240 rfl (lv_at hl 4 rfl) ?_
              refine lv_iconst (v := (3 : Int32)) hx hb dX5_readsItem_241 (by decide) ?_
              refine lv_icmp_ne (tgt := 263) hx hb dX5_readsItem_242 (by decide) (fun c_28 => ?_) (fun c_28 => ?_)
              · have hf := pif hf c_28
                refine lv_aload_n hx hb dX5_readsItem_263 rfl (lv_at hl 3 rfl) ?_
                obtain ⟨r_29, hc, hf⟩ := pb1 hf
                refine gCi (va_runV (As := []) (rest := []) hF (kX5_isWell l dC dI Z cC cI cZ cW a_o a_o_text a_o_need a_o_made a_o_skillTold a_o_placeTold a_o_skips a_o_wheelTold a_o_tunes a_o_s a_o_spare a_o_kept a_o_isKept a_o_makes a_o_works a_o_order _ o_thrown o_trace o_typed o_next_11 o_token_12 o_place_13 o_value_14 o_fault_15 o_trades o_people o_draftTrades o_draftPeople o_isShut o_falling  N r_29 hc) (cwV 0 hts gX5_readsItem_X5_isWell rfl rfl rfl (by decide +kernel) ⟨Nat.le_of_ble_eq_true rfl, Nat.le_of_ble_eq_true rfl⟩) (gPV (wc := [(a_o, .inr (5, [.int o_thrown, .long o_trace, .ref a_o_text, .int o_typed, .int o_next_11, .int o_token_12, .int o_place_13, .int o_value_14, .int o_fault_15, .ref a_o_need, .ref a_o_made, .ref a_o_skillTold, .ref a_o_placeTold, .ref a_o_skips, .ref a_o_wheelTold, .int o_trades, .int o_people, .int o_draftTrades, .int o_draftPeople, .int o_isShut, .ref a_o_tunes, .ref a_o_s, .ref a_o_spare, .ref a_o_kept, .ref a_o_isKept, .ref a_o_makes, .ref a_o_works, .ref a_o_order, .int o_falling]))]) hK hN hA hS hP hD [0] rfl rfl (q0 := 0) (ci := 5) rfl rfl rfl) rfl rfl hl.1 rfl (lv_room (Nat.le_of_ble_eq_true rfl)) dX5_readsItem_264 ⟨Nat.zero_le _, Nat.zero_le _⟩) hP hD hS hA [0] rfl rfl rfl (fun H locs hP hD hS => ?_)
                have hP : va_P (dC, dI) vwCl [(a_o, .inr (5, [.int o_thrown, .long o_trace, .ref a_o_text, .int o_typed, .int o_next_11, .int o_token_12, .int o_place_13, .int o_value_14, .int o_fault_15, .ref a_o_need, .ref a_o_made, .ref a_o_skillTold, .ref a_o_placeTold, .ref a_o_skips, .ref a_o_wheelTold, .int o_trades, .int o_people, .int o_draftTrades, .int o_draftPeople, .int o_isShut, .ref a_o_tunes, .ref a_o_s, .ref a_o_spare, .ref a_o_kept, .ref a_o_isKept, .ref a_o_makes, .ref a_o_works, .ref a_o_order, .int o_falling])), (a_o_text, .inl (cI, 400, .inl o_text)), (a_o_need, .inl (cI, 12, .inl o_need)), (a_o_made, .inl (cI, 12, .inl o_made)), (a_o_skillTold, .inl (cI, 72, .inl o_skillTold)), (a_o_placeTold, .inl (cI, 12, .inl o_placeTold)), (a_o_skips, .inl (cI, 12, .inl o_skips)), (a_o_wheelTold, .inl (cI, 12, .inl o_wheelTold))] H := hP
                have hD : va_D A [(a_o, .inr (5, [.int o_thrown, .long o_trace, .ref a_o_text, .int o_typed, .int o_next_11, .int o_token_12, .int o_place_13, .int o_value_14, .int o_fault_15, .ref a_o_need, .ref a_o_made, .ref a_o_skillTold, .ref a_o_placeTold, .ref a_o_skips, .ref a_o_wheelTold, .int o_trades, .int o_people, .int o_draftTrades, .int o_draftPeople, .int o_isShut, .ref a_o_tunes, .ref a_o_s, .ref a_o_spare, .ref a_o_kept, .ref a_o_isKept, .ref a_o_makes, .ref a_o_works, .ref a_o_order, .int o_falling])), (a_o_text, .inl (cI, 400, .inl o_text)), (a_o_need, .inl (cI, 12, .inl o_need)), (a_o_made, .inl (cI, 12, .inl o_made)), (a_o_skillTold, .inl (cI, 72, .inl o_skillTold)), (a_o_placeTold, .inl (cI, 12, .inl o_placeTold)), (a_o_skips, .inl (cI, 12, .inl o_skips)), (a_o_wheelTold, .inl (cI, 12, .inl o_wheelTold))] := hD
                refine lv_if_eq (tgt := 280) hx hb dX5_readsItem_267 (by decide) (fun c_30 => ?_) (fun c_30 => ?_)
                · have hf := pit hf c_30
                  refine lv_aload_n hx hb dX5_readsItem_280 rfl (lv_at hl 3 rfl) ?_
                  refine lv_aload_n hx hb dX5_readsItem_281 rfl (lv_at hl 3 rfl) ?_
                  refine va_get (D := (dC, dI)) (ci := 5) (v := .int o_isShut) (C := RX5) (T := TX5) (N := 29) hx hb hts uX5_readsItem_X5 hown hK hP 0 rfl rfl 19 (by decide) (hts _ mX5_readsItem_2) (fun _ h9 => h9) rfl dX5_readsItem_282 ?_
                  refine lv_if_ne (tgt := 293) hx hb dX5_readsItem_285 (by decide) (fun c_31 => ?_) (fun c_31 => ?_)
                  · have hf := pif hf c_31
                    refine lv_iconst (v := (1 : Int32)) hx hb dX5_readsItem_293 (by decide) ?_
                    refine lv_goto (tgt := 298) hx hb dX5_readsItem_294 (by decide) ?_
                    refine va_put (D := (dC, dI)) (ci := 5) (v := .int (1 : Int32)) (ty := .boolean) (C := RX5) (T := TX5) (N := 29) hx hb hts uX5_readsItem_X5 tyX5 tyX5_ok nmX5 hown hK hP hD hS 0 rfl rfl 19 (by decide) (hts _ mX5_readsItem_2) (fun _ h9 => h9) rfl (by decide +kernel) rfl rfl (Nat.le_of_ble_eq_true rfl) dX5_readsItem_298 (fun H locs hP hD hS => ?_)
                    have hP : va_P (dC, dI) vwCl [(a_o, .inr (5, [.int o_thrown, .long o_trace, .ref a_o_text, .int o_typed, .int o_next_11, .int o_token_12, .int o_place_13, .int o_value_14, .int o_fault_15, .ref a_o_need, .ref a_o_made, .ref a_o_skillTold, .ref a_o_placeTold, .ref a_o_skips, .ref a_o_wheelTold, .int o_trades, .int o_people, .int o_draftTrades, .int o_draftPeople, .int (1 : Int32), .ref a_o_tunes, .ref a_o_s, .ref a_o_spare, .ref a_o_kept, .ref a_o_isKept, .ref a_o_makes, .ref a_o_works, .ref a_o_order, .int o_falling])), (a_o_text, .inl (cI, 400, .inl o_text)), (a_o_need, .inl (cI, 12, .inl o_need)), (a_o_made, .inl (cI, 12, .inl o_made)), (a_o_skillTold, .inl (cI, 72, .inl o_skillTold)), (a_o_placeTold, .inl (cI, 12, .inl o_placeTold)), (a_o_skips, .inl (cI, 12, .inl o_skips)), (a_o_wheelTold, .inl (cI, 12, .inl o_wheelTold))] H := hP
                    have hD : va_D A [(a_o, .inr (5, [.int o_thrown, .long o_trace, .ref a_o_text, .int o_typed, .int o_next_11, .int o_token_12, .int o_place_13, .int o_value_14, .int o_fault_15, .ref a_o_need, .ref a_o_made, .ref a_o_skillTold, .ref a_o_placeTold, .ref a_o_skips, .ref a_o_wheelTold, .int o_trades, .int o_people, .int o_draftTrades, .int o_draftPeople, .int (1 : Int32), .ref a_o_tunes, .ref a_o_s, .ref a_o_spare, .ref a_o_kept, .ref a_o_isKept, .ref a_o_makes, .ref a_o_works, .ref a_o_order, .int o_falling])), (a_o_text, .inl (cI, 400, .inl o_text)), (a_o_need, .inl (cI, 12, .inl o_need)), (a_o_made, .inl (cI, 12, .inl o_made)), (a_o_skillTold, .inl (cI, 72, .inl o_skillTold)), (a_o_placeTold, .inl (cI, 12, .inl o_placeTold)), (a_o_skips, .inl (cI, 12, .inl o_skips)), (a_o_wheelTold, .inl (cI, 12, .inl o_wheelTold))] := hD
                    have q0 := Option.some.inj hf
                    obtain ⟨e0, q1⟩ := Prod.mk.inj q0
                    obtain ⟨e1, q2⟩ := Prod.mk.inj q1
                    obtain ⟨e2, q3⟩ := Prod.mk.inj q2
                    obtain ⟨e3, q4⟩ := Prod.mk.inj q3
                    obtain ⟨e4, q5⟩ := Prod.mk.inj q4
                    obtain ⟨e5, q6⟩ := Prod.mk.inj q5
                    obtain ⟨e6, q7⟩ := Prod.mk.inj q6
                    obtain ⟨e7, q8⟩ := Prod.mk.inj q7
                    obtain ⟨e8, q9⟩ := Prod.mk.inj q8
                    obtain ⟨e9, q10⟩ := Prod.mk.inj q9
                    obtain ⟨e10, q11⟩ := Prod.mk.inj q10
                    obtain ⟨e11, q12⟩ := Prod.mk.inj q11
                    obtain ⟨e12, q13⟩ := Prod.mk.inj q12
                    subst e0
                    subst e1
                    subst e2
                    subst e3
                    subst e4
                    subst e5
                    subst e6
                    subst e7
                    subst e8
                    subst e9
                    subst e10
                    subst e11
                    subst e12
                    subst q13
                    exact gRv hx hb hr hlocks hP hS dX5_readsItem_301
                  · have hf := pit hf c_31
                    refine lv_iload_n hx hb dX5_readsItem_288 rfl (lv_at hl 4 rfl) ?_
                    refine lv_iconst (v := (1 : Int32)) hx hb dX5_readsItem_289 (by decide) ?_
                    refine lv_icmp_le (tgt := 297) hx hb dX5_readsItem_290 (by decide) (fun c_32 => ?_) (fun c_32 => ?_)
                    · have hf := pit hf c_32
                      refine lv_iconst (v := (0 : Int32)) hx hb dX5_readsItem_297 (by decide) ?_
                      refine va_put (D := (dC, dI)) (ci := 5) (v := .int (0 : Int32)) (ty := .boolean) (C := RX5) (T := TX5) (N := 29) hx hb hts uX5_readsItem_X5 tyX5 tyX5_ok nmX5 hown hK hP hD hS 0 rfl rfl 19 (by decide) (hts _ mX5_readsItem_2) (fun _ h9 => h9) rfl (by decide +kernel) rfl rfl (Nat.le_of_ble_eq_true rfl) dX5_readsItem_298 (fun H locs hP hD hS => ?_)
                      have hP : va_P (dC, dI) vwCl [(a_o, .inr (5, [.int o_thrown, .long o_trace, .ref a_o_text, .int o_typed, .int o_next_11, .int o_token_12, .int o_place_13, .int o_value_14, .int o_fault_15, .ref a_o_need, .ref a_o_made, .ref a_o_skillTold, .ref a_o_placeTold, .ref a_o_skips, .ref a_o_wheelTold, .int o_trades, .int o_people, .int o_draftTrades, .int o_draftPeople, .int (0 : Int32), .ref a_o_tunes, .ref a_o_s, .ref a_o_spare, .ref a_o_kept, .ref a_o_isKept, .ref a_o_makes, .ref a_o_works, .ref a_o_order, .int o_falling])), (a_o_text, .inl (cI, 400, .inl o_text)), (a_o_need, .inl (cI, 12, .inl o_need)), (a_o_made, .inl (cI, 12, .inl o_made)), (a_o_skillTold, .inl (cI, 72, .inl o_skillTold)), (a_o_placeTold, .inl (cI, 12, .inl o_placeTold)), (a_o_skips, .inl (cI, 12, .inl o_skips)), (a_o_wheelTold, .inl (cI, 12, .inl o_wheelTold))] H := hP
                      have hD : va_D A [(a_o, .inr (5, [.int o_thrown, .long o_trace, .ref a_o_text, .int o_typed, .int o_next_11, .int o_token_12, .int o_place_13, .int o_value_14, .int o_fault_15, .ref a_o_need, .ref a_o_made, .ref a_o_skillTold, .ref a_o_placeTold, .ref a_o_skips, .ref a_o_wheelTold, .int o_trades, .int o_people, .int o_draftTrades, .int o_draftPeople, .int (0 : Int32), .ref a_o_tunes, .ref a_o_s, .ref a_o_spare, .ref a_o_kept, .ref a_o_isKept, .ref a_o_makes, .ref a_o_works, .ref a_o_order, .int o_falling])), (a_o_text, .inl (cI, 400, .inl o_text)), (a_o_need, .inl (cI, 12, .inl o_need)), (a_o_made, .inl (cI, 12, .inl o_made)), (a_o_skillTold, .inl (cI, 72, .inl o_skillTold)), (a_o_placeTold, .inl (cI, 12, .inl o_placeTold)), (a_o_skips, .inl (cI, 12, .inl o_skips)), (a_o_wheelTold, .inl (cI, 12, .inl o_wheelTold))] := hD
                      have q0 := Option.some.inj hf
                      obtain ⟨e0, q1⟩ := Prod.mk.inj q0
                      obtain ⟨e1, q2⟩ := Prod.mk.inj q1
                      obtain ⟨e2, q3⟩ := Prod.mk.inj q2
                      obtain ⟨e3, q4⟩ := Prod.mk.inj q3
                      obtain ⟨e4, q5⟩ := Prod.mk.inj q4
                      obtain ⟨e5, q6⟩ := Prod.mk.inj q5
                      obtain ⟨e6, q7⟩ := Prod.mk.inj q6
                      obtain ⟨e7, q8⟩ := Prod.mk.inj q7
                      obtain ⟨e8, q9⟩ := Prod.mk.inj q8
                      obtain ⟨e9, q10⟩ := Prod.mk.inj q9
                      obtain ⟨e10, q11⟩ := Prod.mk.inj q10
                      obtain ⟨e11, q12⟩ := Prod.mk.inj q11
                      obtain ⟨e12, q13⟩ := Prod.mk.inj q12
                      subst e0
                      subst e1
                      subst e2
                      subst e3
                      subst e4
                      subst e5
                      subst e6
                      subst e7
                      subst e8
                      subst e9
                      subst e10
                      subst e11
                      subst e12
                      subst q13
                      exact gRv hx hb hr hlocks hP hS dX5_readsItem_301
                    · have hf := pif hf c_32
                      refine lv_iconst (v := (1 : Int32)) hx hb dX5_readsItem_293 (by decide) ?_
                      refine lv_goto (tgt := 298) hx hb dX5_readsItem_294 (by decide) ?_
                      refine va_put (D := (dC, dI)) (ci := 5) (v := .int (1 : Int32)) (ty := .boolean) (C := RX5) (T := TX5) (N := 29) hx hb hts uX5_readsItem_X5 tyX5 tyX5_ok nmX5 hown hK hP hD hS 0 rfl rfl 19 (by decide) (hts _ mX5_readsItem_2) (fun _ h9 => h9) rfl (by decide +kernel) rfl rfl (Nat.le_of_ble_eq_true rfl) dX5_readsItem_298 (fun H locs hP hD hS => ?_)
                      have hP : va_P (dC, dI) vwCl [(a_o, .inr (5, [.int o_thrown, .long o_trace, .ref a_o_text, .int o_typed, .int o_next_11, .int o_token_12, .int o_place_13, .int o_value_14, .int o_fault_15, .ref a_o_need, .ref a_o_made, .ref a_o_skillTold, .ref a_o_placeTold, .ref a_o_skips, .ref a_o_wheelTold, .int o_trades, .int o_people, .int o_draftTrades, .int o_draftPeople, .int (1 : Int32), .ref a_o_tunes, .ref a_o_s, .ref a_o_spare, .ref a_o_kept, .ref a_o_isKept, .ref a_o_makes, .ref a_o_works, .ref a_o_order, .int o_falling])), (a_o_text, .inl (cI, 400, .inl o_text)), (a_o_need, .inl (cI, 12, .inl o_need)), (a_o_made, .inl (cI, 12, .inl o_made)), (a_o_skillTold, .inl (cI, 72, .inl o_skillTold)), (a_o_placeTold, .inl (cI, 12, .inl o_placeTold)), (a_o_skips, .inl (cI, 12, .inl o_skips)), (a_o_wheelTold, .inl (cI, 12, .inl o_wheelTold))] H := hP
                      have hD : va_D A [(a_o, .inr (5, [.int o_thrown, .long o_trace, .ref a_o_text, .int o_typed, .int o_next_11, .int o_token_12, .int o_place_13, .int o_value_14, .int o_fault_15, .ref a_o_need, .ref a_o_made, .ref a_o_skillTold, .ref a_o_placeTold, .ref a_o_skips, .ref a_o_wheelTold, .int o_trades, .int o_people, .int o_draftTrades, .int o_draftPeople, .int (1 : Int32), .ref a_o_tunes, .ref a_o_s, .ref a_o_spare, .ref a_o_kept, .ref a_o_isKept, .ref a_o_makes, .ref a_o_works, .ref a_o_order, .int o_falling])), (a_o_text, .inl (cI, 400, .inl o_text)), (a_o_need, .inl (cI, 12, .inl o_need)), (a_o_made, .inl (cI, 12, .inl o_made)), (a_o_skillTold, .inl (cI, 72, .inl o_skillTold)), (a_o_placeTold, .inl (cI, 12, .inl o_placeTold)), (a_o_skips, .inl (cI, 12, .inl o_skips)), (a_o_wheelTold, .inl (cI, 12, .inl o_wheelTold))] := hD
                      have q0 := Option.some.inj hf
                      obtain ⟨e0, q1⟩ := Prod.mk.inj q0
                      obtain ⟨e1, q2⟩ := Prod.mk.inj q1
                      obtain ⟨e2, q3⟩ := Prod.mk.inj q2
                      obtain ⟨e3, q4⟩ := Prod.mk.inj q3
                      obtain ⟨e4, q5⟩ := Prod.mk.inj q4
                      obtain ⟨e5, q6⟩ := Prod.mk.inj q5
                      obtain ⟨e6, q7⟩ := Prod.mk.inj q6
                      obtain ⟨e7, q8⟩ := Prod.mk.inj q7
                      obtain ⟨e8, q9⟩ := Prod.mk.inj q8
                      obtain ⟨e9, q10⟩ := Prod.mk.inj q9
                      obtain ⟨e10, q11⟩ := Prod.mk.inj q10
                      obtain ⟨e11, q12⟩ := Prod.mk.inj q11
                      obtain ⟨e12, q13⟩ := Prod.mk.inj q12
                      subst e0
                      subst e1
                      subst e2
                      subst e3
                      subst e4
                      subst e5
                      subst e6
                      subst e7
                      subst e8
                      subst e9
                      subst e10
                      subst e11
                      subst e12
                      subst q13
                      exact gRv hx hb hr hlocks hP hS dX5_readsItem_301
                · have hf := pif hf c_30
                  refine lv_aload_n hx hb dX5_readsItem_270 rfl (lv_at hl 3 rfl) ?_
                  refine va_get (D := (dC, dI)) (ci := 5) (v := .ref a_o_placeTold) (C := RX5) (T := TX5) (N := 29) hx hb hts uX5_readsItem_X5 hown hK hP 0 rfl rfl 12 (by decide) (hts _ mX5_readsItem_3) (fun _ h9 => h9) rfl dX5_readsItem_271 ?_
                  refine lv_bipush (v := (6 : Int32)) hx hb dX5_readsItem_274 (by decide) ?_
                  refine lv_iload_n hx hb dX5_readsItem_276 rfl (lv_at hl 2 rfl) ?_
                  refine lv_iadd hx hb dX5_readsItem_277 ?_
                  refine lv_iload_n hx hb dX5_readsItem_278 rfl (lv_at hl 1 rfl) ?_
                  obtain ⟨h_33, hf⟩ := pgd hf
                  refine va_iast hx hb hK hP hD hS 5 1 rfl rfl h_33 dX5_readsItem_279 (fun H locs hP hD hS => ?_)
                  have hP : va_P (dC, dI) vwCl [(a_o, .inr (5, [.int o_thrown, .long o_trace, .ref a_o_text, .int o_typed, .int o_next_11, .int o_token_12, .int o_place_13, .int o_value_14, .int o_fault_15, .ref a_o_need, .ref a_o_made, .ref a_o_skillTold, .ref a_o_placeTold, .ref a_o_skips, .ref a_o_wheelTold, .int o_trades, .int o_people, .int o_draftTrades, .int o_draftPeople, .int o_isShut, .ref a_o_tunes, .ref a_o_s, .ref a_o_spare, .ref a_o_kept, .ref a_o_isKept, .ref a_o_makes, .ref a_o_works, .ref a_o_order, .int o_falling])), (a_o_text, .inl (cI, 400, .inl o_text)), (a_o_need, .inl (cI, 12, .inl o_need)), (a_o_made, .inl (cI, 12, .inl o_made)), (a_o_skillTold, .inl (cI, 72, .inl o_skillTold)), (a_o_placeTold, .inl (cI, 12, .inl (upd o_placeTold ((6 : Int32) + r_4).toNatClampNeg r_10))), (a_o_skips, .inl (cI, 12, .inl o_skips)), (a_o_wheelTold, .inl (cI, 12, .inl o_wheelTold))] H := hP
                  have hD : va_D A [(a_o, .inr (5, [.int o_thrown, .long o_trace, .ref a_o_text, .int o_typed, .int o_next_11, .int o_token_12, .int o_place_13, .int o_value_14, .int o_fault_15, .ref a_o_need, .ref a_o_made, .ref a_o_skillTold, .ref a_o_placeTold, .ref a_o_skips, .ref a_o_wheelTold, .int o_trades, .int o_people, .int o_draftTrades, .int o_draftPeople, .int o_isShut, .ref a_o_tunes, .ref a_o_s, .ref a_o_spare, .ref a_o_kept, .ref a_o_isKept, .ref a_o_makes, .ref a_o_works, .ref a_o_order, .int o_falling])), (a_o_text, .inl (cI, 400, .inl o_text)), (a_o_need, .inl (cI, 12, .inl o_need)), (a_o_made, .inl (cI, 12, .inl o_made)), (a_o_skillTold, .inl (cI, 72, .inl o_skillTold)), (a_o_placeTold, .inl (cI, 12, .inl (upd o_placeTold ((6 : Int32) + r_4).toNatClampNeg r_10))), (a_o_skips, .inl (cI, 12, .inl o_skips)), (a_o_wheelTold, .inl (cI, 12, .inl o_wheelTold))] := hD
                  refine lv_aload_n hx hb dX5_readsItem_280 rfl (lv_at hl 3 rfl) ?_
                  refine lv_aload_n hx hb dX5_readsItem_281 rfl (lv_at hl 3 rfl) ?_
                  refine va_get (D := (dC, dI)) (ci := 5) (v := .int o_isShut) (C := RX5) (T := TX5) (N := 29) hx hb hts uX5_readsItem_X5 hown hK hP 0 rfl rfl 19 (by decide) (hts _ mX5_readsItem_2) (fun _ h9 => h9) rfl dX5_readsItem_282 ?_
                  refine lv_if_ne (tgt := 293) hx hb dX5_readsItem_285 (by decide) (fun c_34 => ?_) (fun c_34 => ?_)
                  · have hf := pif hf c_34
                    refine lv_iconst (v := (1 : Int32)) hx hb dX5_readsItem_293 (by decide) ?_
                    refine lv_goto (tgt := 298) hx hb dX5_readsItem_294 (by decide) ?_
                    refine va_put (D := (dC, dI)) (ci := 5) (v := .int (1 : Int32)) (ty := .boolean) (C := RX5) (T := TX5) (N := 29) hx hb hts uX5_readsItem_X5 tyX5 tyX5_ok nmX5 hown hK hP hD hS 0 rfl rfl 19 (by decide) (hts _ mX5_readsItem_2) (fun _ h9 => h9) rfl (by decide +kernel) rfl rfl (Nat.le_of_ble_eq_true rfl) dX5_readsItem_298 (fun H locs hP hD hS => ?_)
                    have hP : va_P (dC, dI) vwCl [(a_o, .inr (5, [.int o_thrown, .long o_trace, .ref a_o_text, .int o_typed, .int o_next_11, .int o_token_12, .int o_place_13, .int o_value_14, .int o_fault_15, .ref a_o_need, .ref a_o_made, .ref a_o_skillTold, .ref a_o_placeTold, .ref a_o_skips, .ref a_o_wheelTold, .int o_trades, .int o_people, .int o_draftTrades, .int o_draftPeople, .int (1 : Int32), .ref a_o_tunes, .ref a_o_s, .ref a_o_spare, .ref a_o_kept, .ref a_o_isKept, .ref a_o_makes, .ref a_o_works, .ref a_o_order, .int o_falling])), (a_o_text, .inl (cI, 400, .inl o_text)), (a_o_need, .inl (cI, 12, .inl o_need)), (a_o_made, .inl (cI, 12, .inl o_made)), (a_o_skillTold, .inl (cI, 72, .inl o_skillTold)), (a_o_placeTold, .inl (cI, 12, .inl (upd o_placeTold ((6 : Int32) + r_4).toNatClampNeg r_10))), (a_o_skips, .inl (cI, 12, .inl o_skips)), (a_o_wheelTold, .inl (cI, 12, .inl o_wheelTold))] H := hP
                    have hD : va_D A [(a_o, .inr (5, [.int o_thrown, .long o_trace, .ref a_o_text, .int o_typed, .int o_next_11, .int o_token_12, .int o_place_13, .int o_value_14, .int o_fault_15, .ref a_o_need, .ref a_o_made, .ref a_o_skillTold, .ref a_o_placeTold, .ref a_o_skips, .ref a_o_wheelTold, .int o_trades, .int o_people, .int o_draftTrades, .int o_draftPeople, .int (1 : Int32), .ref a_o_tunes, .ref a_o_s, .ref a_o_spare, .ref a_o_kept, .ref a_o_isKept, .ref a_o_makes, .ref a_o_works, .ref a_o_order, .int o_falling])), (a_o_text, .inl (cI, 400, .inl o_text)), (a_o_need, .inl (cI, 12, .inl o_need)), (a_o_made, .inl (cI, 12, .inl o_made)), (a_o_skillTold, .inl (cI, 72, .inl o_skillTold)), (a_o_placeTold, .inl (cI, 12, .inl (upd o_placeTold ((6 : Int32) + r_4).toNatClampNeg r_10))), (a_o_skips, .inl (cI, 12, .inl o_skips)), (a_o_wheelTold, .inl (cI, 12, .inl o_wheelTold))] := hD
                    have q0 := Option.some.inj hf
                    obtain ⟨e0, q1⟩ := Prod.mk.inj q0
                    obtain ⟨e1, q2⟩ := Prod.mk.inj q1
                    obtain ⟨e2, q3⟩ := Prod.mk.inj q2
                    obtain ⟨e3, q4⟩ := Prod.mk.inj q3
                    obtain ⟨e4, q5⟩ := Prod.mk.inj q4
                    obtain ⟨e5, q6⟩ := Prod.mk.inj q5
                    obtain ⟨e6, q7⟩ := Prod.mk.inj q6
                    obtain ⟨e7, q8⟩ := Prod.mk.inj q7
                    obtain ⟨e8, q9⟩ := Prod.mk.inj q8
                    obtain ⟨e9, q10⟩ := Prod.mk.inj q9
                    obtain ⟨e10, q11⟩ := Prod.mk.inj q10
                    obtain ⟨e11, q12⟩ := Prod.mk.inj q11
                    obtain ⟨e12, q13⟩ := Prod.mk.inj q12
                    subst e0
                    subst e1
                    subst e2
                    subst e3
                    subst e4
                    subst e5
                    subst e6
                    subst e7
                    subst e8
                    subst e9
                    subst e10
                    subst e11
                    subst e12
                    subst q13
                    exact gRv hx hb hr hlocks hP hS dX5_readsItem_301
                  · have hf := pit hf c_34
                    refine lv_iload_n hx hb dX5_readsItem_288 rfl (lv_at hl 4 rfl) ?_
                    refine lv_iconst (v := (1 : Int32)) hx hb dX5_readsItem_289 (by decide) ?_
                    refine lv_icmp_le (tgt := 297) hx hb dX5_readsItem_290 (by decide) (fun c_35 => ?_) (fun c_35 => ?_)
                    · have hf := pit hf c_35
                      refine lv_iconst (v := (0 : Int32)) hx hb dX5_readsItem_297 (by decide) ?_
                      refine va_put (D := (dC, dI)) (ci := 5) (v := .int (0 : Int32)) (ty := .boolean) (C := RX5) (T := TX5) (N := 29) hx hb hts uX5_readsItem_X5 tyX5 tyX5_ok nmX5 hown hK hP hD hS 0 rfl rfl 19 (by decide) (hts _ mX5_readsItem_2) (fun _ h9 => h9) rfl (by decide +kernel) rfl rfl (Nat.le_of_ble_eq_true rfl) dX5_readsItem_298 (fun H locs hP hD hS => ?_)
                      have hP : va_P (dC, dI) vwCl [(a_o, .inr (5, [.int o_thrown, .long o_trace, .ref a_o_text, .int o_typed, .int o_next_11, .int o_token_12, .int o_place_13, .int o_value_14, .int o_fault_15, .ref a_o_need, .ref a_o_made, .ref a_o_skillTold, .ref a_o_placeTold, .ref a_o_skips, .ref a_o_wheelTold, .int o_trades, .int o_people, .int o_draftTrades, .int o_draftPeople, .int (0 : Int32), .ref a_o_tunes, .ref a_o_s, .ref a_o_spare, .ref a_o_kept, .ref a_o_isKept, .ref a_o_makes, .ref a_o_works, .ref a_o_order, .int o_falling])), (a_o_text, .inl (cI, 400, .inl o_text)), (a_o_need, .inl (cI, 12, .inl o_need)), (a_o_made, .inl (cI, 12, .inl o_made)), (a_o_skillTold, .inl (cI, 72, .inl o_skillTold)), (a_o_placeTold, .inl (cI, 12, .inl (upd o_placeTold ((6 : Int32) + r_4).toNatClampNeg r_10))), (a_o_skips, .inl (cI, 12, .inl o_skips)), (a_o_wheelTold, .inl (cI, 12, .inl o_wheelTold))] H := hP
                      have hD : va_D A [(a_o, .inr (5, [.int o_thrown, .long o_trace, .ref a_o_text, .int o_typed, .int o_next_11, .int o_token_12, .int o_place_13, .int o_value_14, .int o_fault_15, .ref a_o_need, .ref a_o_made, .ref a_o_skillTold, .ref a_o_placeTold, .ref a_o_skips, .ref a_o_wheelTold, .int o_trades, .int o_people, .int o_draftTrades, .int o_draftPeople, .int (0 : Int32), .ref a_o_tunes, .ref a_o_s, .ref a_o_spare, .ref a_o_kept, .ref a_o_isKept, .ref a_o_makes, .ref a_o_works, .ref a_o_order, .int o_falling])), (a_o_text, .inl (cI, 400, .inl o_text)), (a_o_need, .inl (cI, 12, .inl o_need)), (a_o_made, .inl (cI, 12, .inl o_made)), (a_o_skillTold, .inl (cI, 72, .inl o_skillTold)), (a_o_placeTold, .inl (cI, 12, .inl (upd o_placeTold ((6 : Int32) + r_4).toNatClampNeg r_10))), (a_o_skips, .inl (cI, 12, .inl o_skips)), (a_o_wheelTold, .inl (cI, 12, .inl o_wheelTold))] := hD
                      have q0 := Option.some.inj hf
                      obtain ⟨e0, q1⟩ := Prod.mk.inj q0
                      obtain ⟨e1, q2⟩ := Prod.mk.inj q1
                      obtain ⟨e2, q3⟩ := Prod.mk.inj q2
                      obtain ⟨e3, q4⟩ := Prod.mk.inj q3
                      obtain ⟨e4, q5⟩ := Prod.mk.inj q4
                      obtain ⟨e5, q6⟩ := Prod.mk.inj q5
                      obtain ⟨e6, q7⟩ := Prod.mk.inj q6
                      obtain ⟨e7, q8⟩ := Prod.mk.inj q7
                      obtain ⟨e8, q9⟩ := Prod.mk.inj q8
                      obtain ⟨e9, q10⟩ := Prod.mk.inj q9
                      obtain ⟨e10, q11⟩ := Prod.mk.inj q10
                      obtain ⟨e11, q12⟩ := Prod.mk.inj q11
                      obtain ⟨e12, q13⟩ := Prod.mk.inj q12
                      subst e0
                      subst e1
                      subst e2
                      subst e3
                      subst e4
                      subst e5
                      subst e6
                      subst e7
                      subst e8
                      subst e9
                      subst e10
                      subst e11
                      subst e12
                      subst q13
                      exact gRv hx hb hr hlocks hP hS dX5_readsItem_301
                    · have hf := pif hf c_35
                      refine lv_iconst (v := (1 : Int32)) hx hb dX5_readsItem_293 (by decide) ?_
                      refine lv_goto (tgt := 298) hx hb dX5_readsItem_294 (by decide) ?_
                      refine va_put (D := (dC, dI)) (ci := 5) (v := .int (1 : Int32)) (ty := .boolean) (C := RX5) (T := TX5) (N := 29) hx hb hts uX5_readsItem_X5 tyX5 tyX5_ok nmX5 hown hK hP hD hS 0 rfl rfl 19 (by decide) (hts _ mX5_readsItem_2) (fun _ h9 => h9) rfl (by decide +kernel) rfl rfl (Nat.le_of_ble_eq_true rfl) dX5_readsItem_298 (fun H locs hP hD hS => ?_)
                      have hP : va_P (dC, dI) vwCl [(a_o, .inr (5, [.int o_thrown, .long o_trace, .ref a_o_text, .int o_typed, .int o_next_11, .int o_token_12, .int o_place_13, .int o_value_14, .int o_fault_15, .ref a_o_need, .ref a_o_made, .ref a_o_skillTold, .ref a_o_placeTold, .ref a_o_skips, .ref a_o_wheelTold, .int o_trades, .int o_people, .int o_draftTrades, .int o_draftPeople, .int (1 : Int32), .ref a_o_tunes, .ref a_o_s, .ref a_o_spare, .ref a_o_kept, .ref a_o_isKept, .ref a_o_makes, .ref a_o_works, .ref a_o_order, .int o_falling])), (a_o_text, .inl (cI, 400, .inl o_text)), (a_o_need, .inl (cI, 12, .inl o_need)), (a_o_made, .inl (cI, 12, .inl o_made)), (a_o_skillTold, .inl (cI, 72, .inl o_skillTold)), (a_o_placeTold, .inl (cI, 12, .inl (upd o_placeTold ((6 : Int32) + r_4).toNatClampNeg r_10))), (a_o_skips, .inl (cI, 12, .inl o_skips)), (a_o_wheelTold, .inl (cI, 12, .inl o_wheelTold))] H := hP
                      have hD : va_D A [(a_o, .inr (5, [.int o_thrown, .long o_trace, .ref a_o_text, .int o_typed, .int o_next_11, .int o_token_12, .int o_place_13, .int o_value_14, .int o_fault_15, .ref a_o_need, .ref a_o_made, .ref a_o_skillTold, .ref a_o_placeTold, .ref a_o_skips, .ref a_o_wheelTold, .int o_trades, .int o_people, .int o_draftTrades, .int o_draftPeople, .int (1 : Int32), .ref a_o_tunes, .ref a_o_s, .ref a_o_spare, .ref a_o_kept, .ref a_o_isKept, .ref a_o_makes, .ref a_o_works, .ref a_o_order, .int o_falling])), (a_o_text, .inl (cI, 400, .inl o_text)), (a_o_need, .inl (cI, 12, .inl o_need)), (a_o_made, .inl (cI, 12, .inl o_made)), (a_o_skillTold, .inl (cI, 72, .inl o_skillTold)), (a_o_placeTold, .inl (cI, 12, .inl (upd o_placeTold ((6 : Int32) + r_4).toNatClampNeg r_10))), (a_o_skips, .inl (cI, 12, .inl o_skips)), (a_o_wheelTold, .inl (cI, 12, .inl o_wheelTold))] := hD
                      have q0 := Option.some.inj hf
                      obtain ⟨e0, q1⟩ := Prod.mk.inj q0
                      obtain ⟨e1, q2⟩ := Prod.mk.inj q1
                      obtain ⟨e2, q3⟩ := Prod.mk.inj q2
                      obtain ⟨e3, q4⟩ := Prod.mk.inj q3
                      obtain ⟨e4, q5⟩ := Prod.mk.inj q4
                      obtain ⟨e5, q6⟩ := Prod.mk.inj q5
                      obtain ⟨e6, q7⟩ := Prod.mk.inj q6
                      obtain ⟨e7, q8⟩ := Prod.mk.inj q7
                      obtain ⟨e8, q9⟩ := Prod.mk.inj q8
                      obtain ⟨e9, q10⟩ := Prod.mk.inj q9
                      obtain ⟨e10, q11⟩ := Prod.mk.inj q10
                      obtain ⟨e11, q12⟩ := Prod.mk.inj q11
                      obtain ⟨e12, q13⟩ := Prod.mk.inj q12
                      subst e0
                      subst e1
                      subst e2
                      subst e3
                      subst e4
                      subst e5
                      subst e6
                      subst e7
                      subst e8
                      subst e9
                      subst e10
                      subst e11
                      subst e12
                      subst q13
                      exact gRv hx hb hr hlocks hP hS dX5_readsItem_301
              · have hf := pit hf c_28
                refine lv_aload_n hx hb dX5_readsItem_245 rfl (lv_at hl 3 rfl) ?_
                refine va_get (D := (dC, dI)) (ci := 5) (v := .ref a_o_skips) (C := RX5) (T := TX5) (N := 29) hx hb hts uX5_readsItem_X5 hown hK hP 0 rfl rfl 13 (by decide) (hts _ mX5_readsItem_4) (fun _ h9 => h9) rfl dX5_readsItem_246 ?_
                refine lv_bipush (v := (6 : Int32)) hx hb dX5_readsItem_249 (by decide) ?_
                refine lv_iload_n hx hb dX5_readsItem_251 rfl (lv_at hl 2 rfl) ?_
                refine lv_iadd hx hb dX5_readsItem_252 ?_
                refine lv_dup2_11 hx hb dX5_readsItem_253 rfl rfl ?_
                obtain ⟨h_36, hf⟩ := pgd hf
                refine va_iald hx hb hK hP 6 1 rfl rfl h_36 dX5_readsItem_254 ?_
                refine lv_iconst (v := (1 : Int32)) hx hb dX5_readsItem_255 (by decide) ?_
                refine lv_iload_n hx hb dX5_readsItem_256 rfl (lv_at hl 1 rfl) ?_
                refine lv_ishl hx hb dX5_readsItem_257 ?_
                refine lv_ior hx hb dX5_readsItem_258 ?_
                obtain ⟨h_37, hf⟩ := pgd hf
                refine va_iast hx hb hK hP hD hS 6 1 rfl rfl h_37 dX5_readsItem_259 (fun H locs hP hD hS => ?_)
                have hP : va_P (dC, dI) vwCl [(a_o, .inr (5, [.int o_thrown, .long o_trace, .ref a_o_text, .int o_typed, .int o_next_11, .int o_token_12, .int o_place_13, .int o_value_14, .int o_fault_15, .ref a_o_need, .ref a_o_made, .ref a_o_skillTold, .ref a_o_placeTold, .ref a_o_skips, .ref a_o_wheelTold, .int o_trades, .int o_people, .int o_draftTrades, .int o_draftPeople, .int o_isShut, .ref a_o_tunes, .ref a_o_s, .ref a_o_spare, .ref a_o_kept, .ref a_o_isKept, .ref a_o_makes, .ref a_o_works, .ref a_o_order, .int o_falling])), (a_o_text, .inl (cI, 400, .inl o_text)), (a_o_need, .inl (cI, 12, .inl o_need)), (a_o_made, .inl (cI, 12, .inl o_made)), (a_o_skillTold, .inl (cI, 72, .inl o_skillTold)), (a_o_placeTold, .inl (cI, 12, .inl o_placeTold)), (a_o_skips, .inl (cI, 12, .inl (upd o_skips ((6 : Int32) + r_4).toNatClampNeg ((o_skips ((6 : Int32) + r_4).toNatClampNeg) ||| ((1 : Int32) <<< (r_10 &&& 31)))))), (a_o_wheelTold, .inl (cI, 12, .inl o_wheelTold))] H := hP
                have hD : va_D A [(a_o, .inr (5, [.int o_thrown, .long o_trace, .ref a_o_text, .int o_typed, .int o_next_11, .int o_token_12, .int o_place_13, .int o_value_14, .int o_fault_15, .ref a_o_need, .ref a_o_made, .ref a_o_skillTold, .ref a_o_placeTold, .ref a_o_skips, .ref a_o_wheelTold, .int o_trades, .int o_people, .int o_draftTrades, .int o_draftPeople, .int o_isShut, .ref a_o_tunes, .ref a_o_s, .ref a_o_spare, .ref a_o_kept, .ref a_o_isKept, .ref a_o_makes, .ref a_o_works, .ref a_o_order, .int o_falling])), (a_o_text, .inl (cI, 400, .inl o_text)), (a_o_need, .inl (cI, 12, .inl o_need)), (a_o_made, .inl (cI, 12, .inl o_made)), (a_o_skillTold, .inl (cI, 72, .inl o_skillTold)), (a_o_placeTold, .inl (cI, 12, .inl o_placeTold)), (a_o_skips, .inl (cI, 12, .inl (upd o_skips ((6 : Int32) + r_4).toNatClampNeg ((o_skips ((6 : Int32) + r_4).toNatClampNeg) ||| ((1 : Int32) <<< (r_10 &&& 31)))))), (a_o_wheelTold, .inl (cI, 12, .inl o_wheelTold))] := hD
                refine lv_goto (tgt := 280) hx hb dX5_readsItem_260 (by decide) ?_
                refine lv_aload_n hx hb dX5_readsItem_280 rfl (lv_at hl 3 rfl) ?_
                refine lv_aload_n hx hb dX5_readsItem_281 rfl (lv_at hl 3 rfl) ?_
                refine va_get (D := (dC, dI)) (ci := 5) (v := .int o_isShut) (C := RX5) (T := TX5) (N := 29) hx hb hts uX5_readsItem_X5 hown hK hP 0 rfl rfl 19 (by decide) (hts _ mX5_readsItem_2) (fun _ h9 => h9) rfl dX5_readsItem_282 ?_
                refine lv_if_ne (tgt := 293) hx hb dX5_readsItem_285 (by decide) (fun c_38 => ?_) (fun c_38 => ?_)
                · have hf := pif hf c_38
                  refine lv_iconst (v := (1 : Int32)) hx hb dX5_readsItem_293 (by decide) ?_
                  refine lv_goto (tgt := 298) hx hb dX5_readsItem_294 (by decide) ?_
                  refine va_put (D := (dC, dI)) (ci := 5) (v := .int (1 : Int32)) (ty := .boolean) (C := RX5) (T := TX5) (N := 29) hx hb hts uX5_readsItem_X5 tyX5 tyX5_ok nmX5 hown hK hP hD hS 0 rfl rfl 19 (by decide) (hts _ mX5_readsItem_2) (fun _ h9 => h9) rfl (by decide +kernel) rfl rfl (Nat.le_of_ble_eq_true rfl) dX5_readsItem_298 (fun H locs hP hD hS => ?_)
                  have hP : va_P (dC, dI) vwCl [(a_o, .inr (5, [.int o_thrown, .long o_trace, .ref a_o_text, .int o_typed, .int o_next_11, .int o_token_12, .int o_place_13, .int o_value_14, .int o_fault_15, .ref a_o_need, .ref a_o_made, .ref a_o_skillTold, .ref a_o_placeTold, .ref a_o_skips, .ref a_o_wheelTold, .int o_trades, .int o_people, .int o_draftTrades, .int o_draftPeople, .int (1 : Int32), .ref a_o_tunes, .ref a_o_s, .ref a_o_spare, .ref a_o_kept, .ref a_o_isKept, .ref a_o_makes, .ref a_o_works, .ref a_o_order, .int o_falling])), (a_o_text, .inl (cI, 400, .inl o_text)), (a_o_need, .inl (cI, 12, .inl o_need)), (a_o_made, .inl (cI, 12, .inl o_made)), (a_o_skillTold, .inl (cI, 72, .inl o_skillTold)), (a_o_placeTold, .inl (cI, 12, .inl o_placeTold)), (a_o_skips, .inl (cI, 12, .inl (upd o_skips ((6 : Int32) + r_4).toNatClampNeg ((o_skips ((6 : Int32) + r_4).toNatClampNeg) ||| ((1 : Int32) <<< (r_10 &&& 31)))))), (a_o_wheelTold, .inl (cI, 12, .inl o_wheelTold))] H := hP
                  have hD : va_D A [(a_o, .inr (5, [.int o_thrown, .long o_trace, .ref a_o_text, .int o_typed, .int o_next_11, .int o_token_12, .int o_place_13, .int o_value_14, .int o_fault_15, .ref a_o_need, .ref a_o_made, .ref a_o_skillTold, .ref a_o_placeTold, .ref a_o_skips, .ref a_o_wheelTold, .int o_trades, .int o_people, .int o_draftTrades, .int o_draftPeople, .int (1 : Int32), .ref a_o_tunes, .ref a_o_s, .ref a_o_spare, .ref a_o_kept, .ref a_o_isKept, .ref a_o_makes, .ref a_o_works, .ref a_o_order, .int o_falling])), (a_o_text, .inl (cI, 400, .inl o_text)), (a_o_need, .inl (cI, 12, .inl o_need)), (a_o_made, .inl (cI, 12, .inl o_made)), (a_o_skillTold, .inl (cI, 72, .inl o_skillTold)), (a_o_placeTold, .inl (cI, 12, .inl o_placeTold)), (a_o_skips, .inl (cI, 12, .inl (upd o_skips ((6 : Int32) + r_4).toNatClampNeg ((o_skips ((6 : Int32) + r_4).toNatClampNeg) ||| ((1 : Int32) <<< (r_10 &&& 31)))))), (a_o_wheelTold, .inl (cI, 12, .inl o_wheelTold))] := hD
                  have q0 := Option.some.inj hf
                  obtain ⟨e0, q1⟩ := Prod.mk.inj q0
                  obtain ⟨e1, q2⟩ := Prod.mk.inj q1
                  obtain ⟨e2, q3⟩ := Prod.mk.inj q2
                  obtain ⟨e3, q4⟩ := Prod.mk.inj q3
                  obtain ⟨e4, q5⟩ := Prod.mk.inj q4
                  obtain ⟨e5, q6⟩ := Prod.mk.inj q5
                  obtain ⟨e6, q7⟩ := Prod.mk.inj q6
                  obtain ⟨e7, q8⟩ := Prod.mk.inj q7
                  obtain ⟨e8, q9⟩ := Prod.mk.inj q8
                  obtain ⟨e9, q10⟩ := Prod.mk.inj q9
                  obtain ⟨e10, q11⟩ := Prod.mk.inj q10
                  obtain ⟨e11, q12⟩ := Prod.mk.inj q11
                  obtain ⟨e12, q13⟩ := Prod.mk.inj q12
                  subst e0
                  subst e1
                  subst e2
                  subst e3
                  subst e4
                  subst e5
                  subst e6
                  subst e7
                  subst e8
                  subst e9
                  subst e10
                  subst e11
                  subst e12
                  subst q13
                  exact gRv hx hb hr hlocks hP hS dX5_readsItem_301
                · have hf := pit hf c_38
                  refine lv_iload_n hx hb dX5_readsItem_288 rfl (lv_at hl 4 rfl) ?_
                  refine lv_iconst (v := (1 : Int32)) hx hb dX5_readsItem_289 (by decide) ?_
                  refine lv_icmp_le (tgt := 297) hx hb dX5_readsItem_290 (by decide) (fun c_39 => ?_) (fun c_39 => ?_)
                  · have hf := pit hf c_39
                    refine lv_iconst (v := (0 : Int32)) hx hb dX5_readsItem_297 (by decide) ?_
                    refine va_put (D := (dC, dI)) (ci := 5) (v := .int (0 : Int32)) (ty := .boolean) (C := RX5) (T := TX5) (N := 29) hx hb hts uX5_readsItem_X5 tyX5 tyX5_ok nmX5 hown hK hP hD hS 0 rfl rfl 19 (by decide) (hts _ mX5_readsItem_2) (fun _ h9 => h9) rfl (by decide +kernel) rfl rfl (Nat.le_of_ble_eq_true rfl) dX5_readsItem_298 (fun H locs hP hD hS => ?_)
                    have hP : va_P (dC, dI) vwCl [(a_o, .inr (5, [.int o_thrown, .long o_trace, .ref a_o_text, .int o_typed, .int o_next_11, .int o_token_12, .int o_place_13, .int o_value_14, .int o_fault_15, .ref a_o_need, .ref a_o_made, .ref a_o_skillTold, .ref a_o_placeTold, .ref a_o_skips, .ref a_o_wheelTold, .int o_trades, .int o_people, .int o_draftTrades, .int o_draftPeople, .int (0 : Int32), .ref a_o_tunes, .ref a_o_s, .ref a_o_spare, .ref a_o_kept, .ref a_o_isKept, .ref a_o_makes, .ref a_o_works, .ref a_o_order, .int o_falling])), (a_o_text, .inl (cI, 400, .inl o_text)), (a_o_need, .inl (cI, 12, .inl o_need)), (a_o_made, .inl (cI, 12, .inl o_made)), (a_o_skillTold, .inl (cI, 72, .inl o_skillTold)), (a_o_placeTold, .inl (cI, 12, .inl o_placeTold)), (a_o_skips, .inl (cI, 12, .inl (upd o_skips ((6 : Int32) + r_4).toNatClampNeg ((o_skips ((6 : Int32) + r_4).toNatClampNeg) ||| ((1 : Int32) <<< (r_10 &&& 31)))))), (a_o_wheelTold, .inl (cI, 12, .inl o_wheelTold))] H := hP
                    have hD : va_D A [(a_o, .inr (5, [.int o_thrown, .long o_trace, .ref a_o_text, .int o_typed, .int o_next_11, .int o_token_12, .int o_place_13, .int o_value_14, .int o_fault_15, .ref a_o_need, .ref a_o_made, .ref a_o_skillTold, .ref a_o_placeTold, .ref a_o_skips, .ref a_o_wheelTold, .int o_trades, .int o_people, .int o_draftTrades, .int o_draftPeople, .int (0 : Int32), .ref a_o_tunes, .ref a_o_s, .ref a_o_spare, .ref a_o_kept, .ref a_o_isKept, .ref a_o_makes, .ref a_o_works, .ref a_o_order, .int o_falling])), (a_o_text, .inl (cI, 400, .inl o_text)), (a_o_need, .inl (cI, 12, .inl o_need)), (a_o_made, .inl (cI, 12, .inl o_made)), (a_o_skillTold, .inl (cI, 72, .inl o_skillTold)), (a_o_placeTold, .inl (cI, 12, .inl o_placeTold)), (a_o_skips, .inl (cI, 12, .inl (upd o_skips ((6 : Int32) + r_4).toNatClampNeg ((o_skips ((6 : Int32) + r_4).toNatClampNeg) ||| ((1 : Int32) <<< (r_10 &&& 31)))))), (a_o_wheelTold, .inl (cI, 12, .inl o_wheelTold))] := hD
                    have q0 := Option.some.inj hf
                    obtain ⟨e0, q1⟩ := Prod.mk.inj q0
                    obtain ⟨e1, q2⟩ := Prod.mk.inj q1
                    obtain ⟨e2, q3⟩ := Prod.mk.inj q2
                    obtain ⟨e3, q4⟩ := Prod.mk.inj q3
                    obtain ⟨e4, q5⟩ := Prod.mk.inj q4
                    obtain ⟨e5, q6⟩ := Prod.mk.inj q5
                    obtain ⟨e6, q7⟩ := Prod.mk.inj q6
                    obtain ⟨e7, q8⟩ := Prod.mk.inj q7
                    obtain ⟨e8, q9⟩ := Prod.mk.inj q8
                    obtain ⟨e9, q10⟩ := Prod.mk.inj q9
                    obtain ⟨e10, q11⟩ := Prod.mk.inj q10
                    obtain ⟨e11, q12⟩ := Prod.mk.inj q11
                    obtain ⟨e12, q13⟩ := Prod.mk.inj q12
                    subst e0
                    subst e1
                    subst e2
                    subst e3
                    subst e4
                    subst e5
                    subst e6
                    subst e7
                    subst e8
                    subst e9
                    subst e10
                    subst e11
                    subst e12
                    subst q13
                    exact gRv hx hb hr hlocks hP hS dX5_readsItem_301
                  · have hf := pif hf c_39
                    refine lv_iconst (v := (1 : Int32)) hx hb dX5_readsItem_293 (by decide) ?_
                    refine lv_goto (tgt := 298) hx hb dX5_readsItem_294 (by decide) ?_
                    refine va_put (D := (dC, dI)) (ci := 5) (v := .int (1 : Int32)) (ty := .boolean) (C := RX5) (T := TX5) (N := 29) hx hb hts uX5_readsItem_X5 tyX5 tyX5_ok nmX5 hown hK hP hD hS 0 rfl rfl 19 (by decide) (hts _ mX5_readsItem_2) (fun _ h9 => h9) rfl (by decide +kernel) rfl rfl (Nat.le_of_ble_eq_true rfl) dX5_readsItem_298 (fun H locs hP hD hS => ?_)
                    have hP : va_P (dC, dI) vwCl [(a_o, .inr (5, [.int o_thrown, .long o_trace, .ref a_o_text, .int o_typed, .int o_next_11, .int o_token_12, .int o_place_13, .int o_value_14, .int o_fault_15, .ref a_o_need, .ref a_o_made, .ref a_o_skillTold, .ref a_o_placeTold, .ref a_o_skips, .ref a_o_wheelTold, .int o_trades, .int o_people, .int o_draftTrades, .int o_draftPeople, .int (1 : Int32), .ref a_o_tunes, .ref a_o_s, .ref a_o_spare, .ref a_o_kept, .ref a_o_isKept, .ref a_o_makes, .ref a_o_works, .ref a_o_order, .int o_falling])), (a_o_text, .inl (cI, 400, .inl o_text)), (a_o_need, .inl (cI, 12, .inl o_need)), (a_o_made, .inl (cI, 12, .inl o_made)), (a_o_skillTold, .inl (cI, 72, .inl o_skillTold)), (a_o_placeTold, .inl (cI, 12, .inl o_placeTold)), (a_o_skips, .inl (cI, 12, .inl (upd o_skips ((6 : Int32) + r_4).toNatClampNeg ((o_skips ((6 : Int32) + r_4).toNatClampNeg) ||| ((1 : Int32) <<< (r_10 &&& 31)))))), (a_o_wheelTold, .inl (cI, 12, .inl o_wheelTold))] H := hP
                    have hD : va_D A [(a_o, .inr (5, [.int o_thrown, .long o_trace, .ref a_o_text, .int o_typed, .int o_next_11, .int o_token_12, .int o_place_13, .int o_value_14, .int o_fault_15, .ref a_o_need, .ref a_o_made, .ref a_o_skillTold, .ref a_o_placeTold, .ref a_o_skips, .ref a_o_wheelTold, .int o_trades, .int o_people, .int o_draftTrades, .int o_draftPeople, .int (1 : Int32), .ref a_o_tunes, .ref a_o_s, .ref a_o_spare, .ref a_o_kept, .ref a_o_isKept, .ref a_o_makes, .ref a_o_works, .ref a_o_order, .int o_falling])), (a_o_text, .inl (cI, 400, .inl o_text)), (a_o_need, .inl (cI, 12, .inl o_need)), (a_o_made, .inl (cI, 12, .inl o_made)), (a_o_skillTold, .inl (cI, 72, .inl o_skillTold)), (a_o_placeTold, .inl (cI, 12, .inl o_placeTold)), (a_o_skips, .inl (cI, 12, .inl (upd o_skips ((6 : Int32) + r_4).toNatClampNeg ((o_skips ((6 : Int32) + r_4).toNatClampNeg) ||| ((1 : Int32) <<< (r_10 &&& 31)))))), (a_o_wheelTold, .inl (cI, 12, .inl o_wheelTold))] := hD
                    have q0 := Option.some.inj hf
                    obtain ⟨e0, q1⟩ := Prod.mk.inj q0
                    obtain ⟨e1, q2⟩ := Prod.mk.inj q1
                    obtain ⟨e2, q3⟩ := Prod.mk.inj q2
                    obtain ⟨e3, q4⟩ := Prod.mk.inj q3
                    obtain ⟨e4, q5⟩ := Prod.mk.inj q4
                    obtain ⟨e5, q6⟩ := Prod.mk.inj q5
                    obtain ⟨e6, q7⟩ := Prod.mk.inj q6
                    obtain ⟨e7, q8⟩ := Prod.mk.inj q7
                    obtain ⟨e8, q9⟩ := Prod.mk.inj q8
                    obtain ⟨e9, q10⟩ := Prod.mk.inj q9
                    obtain ⟨e10, q11⟩ := Prod.mk.inj q10
                    obtain ⟨e11, q12⟩ := Prod.mk.inj q11
                    obtain ⟨e12, q13⟩ := Prod.mk.inj q12
                    subst e0
                    subst e1
                    subst e2
                    subst e3
                    subst e4
                    subst e5
                    subst e6
                    subst e7
                    subst e8
                    subst e9
                    subst e10
                    subst e11
                    subst e12
                    subst q13
                    exact gRv hx hb hr hlocks hP hS dX5_readsItem_301
          · have hf := pif hf c_18
            refine lv_iload_n hx hb dX5_readsItem_209 rfl (lv_at hl 4 rfl) ?_
            refine lv_iconst (v := (2 : Int32)) hx hb dX5_readsItem_210 (by decide) ?_
            refine lv_icmp_ne (tgt := 233) hx hb dX5_readsItem_211 (by decide) (fun c_40 => ?_) (fun c_40 => ?_)
            · have hf := pif hf c_40
              refine lv_aload_n hx hb dX5_readsItem_233 rfl (lv_at hl 3 rfl) ?_
              obtain ⟨r_41, hc, hf⟩ := pb1 hf
              refine gCi (va_runV (As := []) (rest := []) hF (kX5_isWell l dC dI Z cC cI cZ cW a_o a_o_text a_o_need a_o_made a_o_skillTold a_o_placeTold a_o_skips a_o_wheelTold a_o_tunes a_o_s a_o_spare a_o_kept a_o_isKept a_o_makes a_o_works a_o_order _ o_thrown o_trace o_typed o_next_11 o_token_12 o_place_13 o_value_14 o_fault_15 o_trades o_people o_draftTrades o_draftPeople o_isShut o_falling  N r_41 hc) (cwV 0 hts gX5_readsItem_X5_isWell rfl rfl rfl (by decide +kernel) ⟨Nat.le_of_ble_eq_true rfl, Nat.le_of_ble_eq_true rfl⟩) (gPV (wc := [(a_o, .inr (5, [.int o_thrown, .long o_trace, .ref a_o_text, .int o_typed, .int o_next_11, .int o_token_12, .int o_place_13, .int o_value_14, .int o_fault_15, .ref a_o_need, .ref a_o_made, .ref a_o_skillTold, .ref a_o_placeTold, .ref a_o_skips, .ref a_o_wheelTold, .int o_trades, .int o_people, .int o_draftTrades, .int o_draftPeople, .int o_isShut, .ref a_o_tunes, .ref a_o_s, .ref a_o_spare, .ref a_o_kept, .ref a_o_isKept, .ref a_o_makes, .ref a_o_works, .ref a_o_order, .int o_falling]))]) hK hN hA hS hP hD [0] rfl rfl (q0 := 0) (ci := 5) rfl rfl rfl) rfl rfl hl.1 rfl (lv_room (Nat.le_of_ble_eq_true rfl)) dX5_readsItem_234 ⟨Nat.zero_le _, Nat.zero_le _⟩) hP hD hS hA [0] rfl rfl rfl (fun H locs hP hD hS => ?_)
              have hP : va_P (dC, dI) vwCl [(a_o, .inr (5, [.int o_thrown, .long o_trace, .ref a_o_text, .int o_typed, .int o_next_11, .int o_token_12, .int o_place_13, .int o_value_14, .int o_fault_15, .ref a_o_need, .ref a_o_made, .ref a_o_skillTold, .ref a_o_placeTold, .ref a_o_skips, .ref a_o_wheelTold, .int o_trades, .int o_people, .int o_draftTrades, .int o_draftPeople, .int o_isShut, .ref a_o_tunes, .ref a_o_s, .ref a_o_spare, .ref a_o_kept, .ref a_o_isKept, .ref a_o_makes, .ref a_o_works, .ref a_o_order, .int o_falling])), (a_o_text, .inl (cI, 400, .inl o_text)), (a_o_need, .inl (cI, 12, .inl o_need)), (a_o_made, .inl (cI, 12, .inl o_made)), (a_o_skillTold, .inl (cI, 72, .inl o_skillTold)), (a_o_placeTold, .inl (cI, 12, .inl o_placeTold)), (a_o_skips, .inl (cI, 12, .inl o_skips)), (a_o_wheelTold, .inl (cI, 12, .inl o_wheelTold))] H := hP
              have hD : va_D A [(a_o, .inr (5, [.int o_thrown, .long o_trace, .ref a_o_text, .int o_typed, .int o_next_11, .int o_token_12, .int o_place_13, .int o_value_14, .int o_fault_15, .ref a_o_need, .ref a_o_made, .ref a_o_skillTold, .ref a_o_placeTold, .ref a_o_skips, .ref a_o_wheelTold, .int o_trades, .int o_people, .int o_draftTrades, .int o_draftPeople, .int o_isShut, .ref a_o_tunes, .ref a_o_s, .ref a_o_spare, .ref a_o_kept, .ref a_o_isKept, .ref a_o_makes, .ref a_o_works, .ref a_o_order, .int o_falling])), (a_o_text, .inl (cI, 400, .inl o_text)), (a_o_need, .inl (cI, 12, .inl o_need)), (a_o_made, .inl (cI, 12, .inl o_made)), (a_o_skillTold, .inl (cI, 72, .inl o_skillTold)), (a_o_placeTold, .inl (cI, 12, .inl o_placeTold)), (a_o_skips, .inl (cI, 12, .inl o_skips)), (a_o_wheelTold, .inl (cI, 12, .inl o_wheelTold))] := hD
              refine lv_if_eq (tgt := 263) hx hb dX5_readsItem_237 (by decide) (fun c_42 => ?_) (fun c_42 => ?_)
              · have hf := pit hf c_42
                refine lv_aload_n hx hb dX5_readsItem_263 rfl (lv_at hl 3 rfl) ?_
                obtain ⟨r_43, hc, hf⟩ := pb1 hf
                refine gCi (va_runV (As := []) (rest := []) hF (kX5_isWell l dC dI Z cC cI cZ cW a_o a_o_text a_o_need a_o_made a_o_skillTold a_o_placeTold a_o_skips a_o_wheelTold a_o_tunes a_o_s a_o_spare a_o_kept a_o_isKept a_o_makes a_o_works a_o_order _ o_thrown o_trace o_typed o_next_11 o_token_12 o_place_13 o_value_14 o_fault_15 o_trades o_people o_draftTrades o_draftPeople o_isShut o_falling  N r_43 hc) (cwV 0 hts gX5_readsItem_X5_isWell rfl rfl rfl (by decide +kernel) ⟨Nat.le_of_ble_eq_true rfl, Nat.le_of_ble_eq_true rfl⟩) (gPV (wc := [(a_o, .inr (5, [.int o_thrown, .long o_trace, .ref a_o_text, .int o_typed, .int o_next_11, .int o_token_12, .int o_place_13, .int o_value_14, .int o_fault_15, .ref a_o_need, .ref a_o_made, .ref a_o_skillTold, .ref a_o_placeTold, .ref a_o_skips, .ref a_o_wheelTold, .int o_trades, .int o_people, .int o_draftTrades, .int o_draftPeople, .int o_isShut, .ref a_o_tunes, .ref a_o_s, .ref a_o_spare, .ref a_o_kept, .ref a_o_isKept, .ref a_o_makes, .ref a_o_works, .ref a_o_order, .int o_falling]))]) hK hN hA hS hP hD [0] rfl rfl (q0 := 0) (ci := 5) rfl rfl rfl) rfl rfl hl.1 rfl (lv_room (Nat.le_of_ble_eq_true rfl)) dX5_readsItem_264 ⟨Nat.zero_le _, Nat.zero_le _⟩) hP hD hS hA [0] rfl rfl rfl (fun H locs hP hD hS => ?_)
                have hP : va_P (dC, dI) vwCl [(a_o, .inr (5, [.int o_thrown, .long o_trace, .ref a_o_text, .int o_typed, .int o_next_11, .int o_token_12, .int o_place_13, .int o_value_14, .int o_fault_15, .ref a_o_need, .ref a_o_made, .ref a_o_skillTold, .ref a_o_placeTold, .ref a_o_skips, .ref a_o_wheelTold, .int o_trades, .int o_people, .int o_draftTrades, .int o_draftPeople, .int o_isShut, .ref a_o_tunes, .ref a_o_s, .ref a_o_spare, .ref a_o_kept, .ref a_o_isKept, .ref a_o_makes, .ref a_o_works, .ref a_o_order, .int o_falling])), (a_o_text, .inl (cI, 400, .inl o_text)), (a_o_need, .inl (cI, 12, .inl o_need)), (a_o_made, .inl (cI, 12, .inl o_made)), (a_o_skillTold, .inl (cI, 72, .inl o_skillTold)), (a_o_placeTold, .inl (cI, 12, .inl o_placeTold)), (a_o_skips, .inl (cI, 12, .inl o_skips)), (a_o_wheelTold, .inl (cI, 12, .inl o_wheelTold))] H := hP
                have hD : va_D A [(a_o, .inr (5, [.int o_thrown, .long o_trace, .ref a_o_text, .int o_typed, .int o_next_11, .int o_token_12, .int o_place_13, .int o_value_14, .int o_fault_15, .ref a_o_need, .ref a_o_made, .ref a_o_skillTold, .ref a_o_placeTold, .ref a_o_skips, .ref a_o_wheelTold, .int o_trades, .int o_people, .int o_draftTrades, .int o_draftPeople, .int o_isShut, .ref a_o_tunes, .ref a_o_s, .ref a_o_spare, .ref a_o_kept, .ref a_o_isKept, .ref a_o_makes, .ref a_o_works, .ref a_o_order, .int o_falling])), (a_o_text, .inl (cI, 400, .inl o_text)), (a_o_need, .inl (cI, 12, .inl o_need)), (a_o_made, .inl (cI, 12, .inl o_made)), (a_o_skillTold, .inl (cI, 72, .inl o_skillTold)), (a_o_placeTold, .inl (cI, 12, .inl o_placeTold)), (a_o_skips, .inl (cI, 12, .inl o_skips)), (a_o_wheelTold, .inl (cI, 12, .inl o_wheelTold))] := hD
                refine lv_if_eq (tgt := 280) hx hb dX5_readsItem_267 (by decide) (fun c_44 => ?_) (fun c_44 => ?_)
                · have hf := pit hf c_44
                  refine lv_aload_n hx hb dX5_readsItem_280 rfl (lv_at hl 3 rfl) ?_
                  refine lv_aload_n hx hb dX5_readsItem_281 rfl (lv_at hl 3 rfl) ?_
                  refine va_get (D := (dC, dI)) (ci := 5) (v := .int o_isShut) (C := RX5) (T := TX5) (N := 29) hx hb hts uX5_readsItem_X5 hown hK hP 0 rfl rfl 19 (by decide) (hts _ mX5_readsItem_2) (fun _ h9 => h9) rfl dX5_readsItem_282 ?_
                  refine lv_if_ne (tgt := 293) hx hb dX5_readsItem_285 (by decide) (fun c_45 => ?_) (fun c_45 => ?_)
                  · have hf := pif hf c_45
                    refine lv_iconst (v := (1 : Int32)) hx hb dX5_readsItem_293 (by decide) ?_
                    refine lv_goto (tgt := 298) hx hb dX5_readsItem_294 (by decide) ?_
                    refine va_put (D := (dC, dI)) (ci := 5) (v := .int (1 : Int32)) (ty := .boolean) (C := RX5) (T := TX5) (N := 29) hx hb hts uX5_readsItem_X5 tyX5 tyX5_ok nmX5 hown hK hP hD hS 0 rfl rfl 19 (by decide) (hts _ mX5_readsItem_2) (fun _ h9 => h9) rfl (by decide +kernel) rfl rfl (Nat.le_of_ble_eq_true rfl) dX5_readsItem_298 (fun H locs hP hD hS => ?_)
                    have hP : va_P (dC, dI) vwCl [(a_o, .inr (5, [.int o_thrown, .long o_trace, .ref a_o_text, .int o_typed, .int o_next_11, .int o_token_12, .int o_place_13, .int o_value_14, .int o_fault_15, .ref a_o_need, .ref a_o_made, .ref a_o_skillTold, .ref a_o_placeTold, .ref a_o_skips, .ref a_o_wheelTold, .int o_trades, .int o_people, .int o_draftTrades, .int o_draftPeople, .int (1 : Int32), .ref a_o_tunes, .ref a_o_s, .ref a_o_spare, .ref a_o_kept, .ref a_o_isKept, .ref a_o_makes, .ref a_o_works, .ref a_o_order, .int o_falling])), (a_o_text, .inl (cI, 400, .inl o_text)), (a_o_need, .inl (cI, 12, .inl o_need)), (a_o_made, .inl (cI, 12, .inl o_made)), (a_o_skillTold, .inl (cI, 72, .inl o_skillTold)), (a_o_placeTold, .inl (cI, 12, .inl o_placeTold)), (a_o_skips, .inl (cI, 12, .inl o_skips)), (a_o_wheelTold, .inl (cI, 12, .inl o_wheelTold))] H := hP
                    have hD : va_D A [(a_o, .inr (5, [.int o_thrown, .long o_trace, .ref a_o_text, .int o_typed, .int o_next_11, .int o_token_12, .int o_place_13, .int o_value_14, .int o_fault_15, .ref a_o_need, .ref a_o_made, .ref a_o_skillTold, .ref a_o_placeTold, .ref a_o_skips, .ref a_o_wheelTold, .int o_trades, .int o_people, .int o_draftTrades, .int o_draftPeople, .int (1 : Int32), .ref a_o_tunes, .ref a_o_s, .ref a_o_spare, .ref a_o_kept, .ref a_o_isKept, .ref a_o_makes, .ref a_o_works, .ref a_o_order, .int o_falling])), (a_o_text, .inl (cI, 400, .inl o_text)), (a_o_need, .inl (cI, 12, .inl o_need)), (a_o_made, .inl (cI, 12, .inl o_made)), (a_o_skillTold, .inl (cI, 72, .inl o_skillTold)), (a_o_placeTold, .inl (cI, 12, .inl o_placeTold)), (a_o_skips, .inl (cI, 12, .inl o_skips)), (a_o_wheelTold, .inl (cI, 12, .inl o_wheelTold))] := hD
                    have q0 := Option.some.inj hf
                    obtain ⟨e0, q1⟩ := Prod.mk.inj q0
                    obtain ⟨e1, q2⟩ := Prod.mk.inj q1
                    obtain ⟨e2, q3⟩ := Prod.mk.inj q2
                    obtain ⟨e3, q4⟩ := Prod.mk.inj q3
                    obtain ⟨e4, q5⟩ := Prod.mk.inj q4
                    obtain ⟨e5, q6⟩ := Prod.mk.inj q5
                    obtain ⟨e6, q7⟩ := Prod.mk.inj q6
                    obtain ⟨e7, q8⟩ := Prod.mk.inj q7
                    obtain ⟨e8, q9⟩ := Prod.mk.inj q8
                    obtain ⟨e9, q10⟩ := Prod.mk.inj q9
                    obtain ⟨e10, q11⟩ := Prod.mk.inj q10
                    obtain ⟨e11, q12⟩ := Prod.mk.inj q11
                    obtain ⟨e12, q13⟩ := Prod.mk.inj q12
                    subst e0
                    subst e1
                    subst e2
                    subst e3
                    subst e4
                    subst e5
                    subst e6
                    subst e7
                    subst e8
                    subst e9
                    subst e10
                    subst e11
                    subst e12
                    subst q13
                    exact gRv hx hb hr hlocks hP hS dX5_readsItem_301
                  · have hf := pit hf c_45
                    refine lv_iload_n hx hb dX5_readsItem_288 rfl (lv_at hl 4 rfl) ?_
                    refine lv_iconst (v := (1 : Int32)) hx hb dX5_readsItem_289 (by decide) ?_
                    refine lv_icmp_le (tgt := 297) hx hb dX5_readsItem_290 (by decide) (fun c_46 => ?_) (fun c_46 => ?_)
                    · have hf := pit hf c_46
                      refine lv_iconst (v := (0 : Int32)) hx hb dX5_readsItem_297 (by decide) ?_
                      refine va_put (D := (dC, dI)) (ci := 5) (v := .int (0 : Int32)) (ty := .boolean) (C := RX5) (T := TX5) (N := 29) hx hb hts uX5_readsItem_X5 tyX5 tyX5_ok nmX5 hown hK hP hD hS 0 rfl rfl 19 (by decide) (hts _ mX5_readsItem_2) (fun _ h9 => h9) rfl (by decide +kernel) rfl rfl (Nat.le_of_ble_eq_true rfl) dX5_readsItem_298 (fun H locs hP hD hS => ?_)
                      have hP : va_P (dC, dI) vwCl [(a_o, .inr (5, [.int o_thrown, .long o_trace, .ref a_o_text, .int o_typed, .int o_next_11, .int o_token_12, .int o_place_13, .int o_value_14, .int o_fault_15, .ref a_o_need, .ref a_o_made, .ref a_o_skillTold, .ref a_o_placeTold, .ref a_o_skips, .ref a_o_wheelTold, .int o_trades, .int o_people, .int o_draftTrades, .int o_draftPeople, .int (0 : Int32), .ref a_o_tunes, .ref a_o_s, .ref a_o_spare, .ref a_o_kept, .ref a_o_isKept, .ref a_o_makes, .ref a_o_works, .ref a_o_order, .int o_falling])), (a_o_text, .inl (cI, 400, .inl o_text)), (a_o_need, .inl (cI, 12, .inl o_need)), (a_o_made, .inl (cI, 12, .inl o_made)), (a_o_skillTold, .inl (cI, 72, .inl o_skillTold)), (a_o_placeTold, .inl (cI, 12, .inl o_placeTold)), (a_o_skips, .inl (cI, 12, .inl o_skips)), (a_o_wheelTold, .inl (cI, 12, .inl o_wheelTold))] H := hP
                      have hD : va_D A [(a_o, .inr (5, [.int o_thrown, .long o_trace, .ref a_o_text, .int o_typed, .int o_next_11, .int o_token_12, .int o_place_13, .int o_value_14, .int o_fault_15, .ref a_o_need, .ref a_o_made, .ref a_o_skillTold, .ref a_o_placeTold, .ref a_o_skips, .ref a_o_wheelTold, .int o_trades, .int o_people, .int o_draftTrades, .int o_draftPeople, .int (0 : Int32), .ref a_o_tunes, .ref a_o_s, .ref a_o_spare, .ref a_o_kept, .ref a_o_isKept, .ref a_o_makes, .ref a_o_works, .ref a_o_order, .int o_falling])), (a_o_text, .inl (cI, 400, .inl o_text)), (a_o_need, .inl (cI, 12, .inl o_need)), (a_o_made, .inl (cI, 12, .inl o_made)), (a_o_skillTold, .inl (cI, 72, .inl o_skillTold)), (a_o_placeTold, .inl (cI, 12, .inl o_placeTold)), (a_o_skips, .inl (cI, 12, .inl o_skips)), (a_o_wheelTold, .inl (cI, 12, .inl o_wheelTold))] := hD
                      have q0 := Option.some.inj hf
                      obtain ⟨e0, q1⟩ := Prod.mk.inj q0
                      obtain ⟨e1, q2⟩ := Prod.mk.inj q1
                      obtain ⟨e2, q3⟩ := Prod.mk.inj q2
                      obtain ⟨e3, q4⟩ := Prod.mk.inj q3
                      obtain ⟨e4, q5⟩ := Prod.mk.inj q4
                      obtain ⟨e5, q6⟩ := Prod.mk.inj q5
                      obtain ⟨e6, q7⟩ := Prod.mk.inj q6
                      obtain ⟨e7, q8⟩ := Prod.mk.inj q7
                      obtain ⟨e8, q9⟩ := Prod.mk.inj q8
                      obtain ⟨e9, q10⟩ := Prod.mk.inj q9
                      obtain ⟨e10, q11⟩ := Prod.mk.inj q10
                      obtain ⟨e11, q12⟩ := Prod.mk.inj q11
                      obtain ⟨e12, q13⟩ := Prod.mk.inj q12
                      subst e0
                      subst e1
                      subst e2
                      subst e3
                      subst e4
                      subst e5
                      subst e6
                      subst e7
                      subst e8
                      subst e9
                      subst e10
                      subst e11
                      subst e12
                      subst q13
                      exact gRv hx hb hr hlocks hP hS dX5_readsItem_301
                    · have hf := pif hf c_46
                      refine lv_iconst (v := (1 : Int32)) hx hb dX5_readsItem_293 (by decide) ?_
                      refine lv_goto (tgt := 298) hx hb dX5_readsItem_294 (by decide) ?_
                      refine va_put (D := (dC, dI)) (ci := 5) (v := .int (1 : Int32)) (ty := .boolean) (C := RX5) (T := TX5) (N := 29) hx hb hts uX5_readsItem_X5 tyX5 tyX5_ok nmX5 hown hK hP hD hS 0 rfl rfl 19 (by decide) (hts _ mX5_readsItem_2) (fun _ h9 => h9) rfl (by decide +kernel) rfl rfl (Nat.le_of_ble_eq_true rfl) dX5_readsItem_298 (fun H locs hP hD hS => ?_)
                      have hP : va_P (dC, dI) vwCl [(a_o, .inr (5, [.int o_thrown, .long o_trace, .ref a_o_text, .int o_typed, .int o_next_11, .int o_token_12, .int o_place_13, .int o_value_14, .int o_fault_15, .ref a_o_need, .ref a_o_made, .ref a_o_skillTold, .ref a_o_placeTold, .ref a_o_skips, .ref a_o_wheelTold, .int o_trades, .int o_people, .int o_draftTrades, .int o_draftPeople, .int (1 : Int32), .ref a_o_tunes, .ref a_o_s, .ref a_o_spare, .ref a_o_kept, .ref a_o_isKept, .ref a_o_makes, .ref a_o_works, .ref a_o_order, .int o_falling])), (a_o_text, .inl (cI, 400, .inl o_text)), (a_o_need, .inl (cI, 12, .inl o_need)), (a_o_made, .inl (cI, 12, .inl o_made)), (a_o_skillTold, .inl (cI, 72, .inl o_skillTold)), (a_o_placeTold, .inl (cI, 12, .inl o_placeTold)), (a_o_skips, .inl (cI, 12, .inl o_skips)), (a_o_wheelTold, .inl (cI, 12, .inl o_wheelTold))] H := hP
                      have hD : va_D A [(a_o, .inr (5, [.int o_thrown, .long o_trace, .ref a_o_text, .int o_typed, .int o_next_11, .int o_token_12, .int o_place_13, .int o_value_14, .int o_fault_15, .ref a_o_need, .ref a_o_made, .ref a_o_skillTold, .ref a_o_placeTold, .ref a_o_skips, .ref a_o_wheelTold, .int o_trades, .int o_people, .int o_draftTrades, .int o_draftPeople, .int (1 : Int32), .ref a_o_tunes, .ref a_o_s, .ref a_o_spare, .ref a_o_kept, .ref a_o_isKept, .ref a_o_makes, .ref a_o_works, .ref a_o_order, .int o_falling])), (a_o_text, .inl (cI, 400, .inl o_text)), (a_o_need, .inl (cI, 12, .inl o_need)), (a_o_made, .inl (cI, 12, .inl o_made)), (a_o_skillTold, .inl (cI, 72, .inl o_skillTold)), (a_o_placeTold, .inl (cI, 12, .inl o_placeTold)), (a_o_skips, .inl (cI, 12, .inl o_skips)), (a_o_wheelTold, .inl (cI, 12, .inl o_wheelTold))] := hD
                      have q0 := Option.some.inj hf
                      obtain ⟨e0, q1⟩ := Prod.mk.inj q0
                      obtain ⟨e1, q2⟩ := Prod.mk.inj q1
                      obtain ⟨e2, q3⟩ := Prod.mk.inj q2
                      obtain ⟨e3, q4⟩ := Prod.mk.inj q3
                      obtain ⟨e4, q5⟩ := Prod.mk.inj q4
                      obtain ⟨e5, q6⟩ := Prod.mk.inj q5
                      obtain ⟨e6, q7⟩ := Prod.mk.inj q6
                      obtain ⟨e7, q8⟩ := Prod.mk.inj q7
                      obtain ⟨e8, q9⟩ := Prod.mk.inj q8
                      obtain ⟨e9, q10⟩ := Prod.mk.inj q9
                      obtain ⟨e10, q11⟩ := Prod.mk.inj q10
                      obtain ⟨e11, q12⟩ := Prod.mk.inj q11
                      obtain ⟨e12, q13⟩ := Prod.mk.inj q12
                      subst e0
                      subst e1
                      subst e2
                      subst e3
                      subst e4
                      subst e5
                      subst e6
                      subst e7
                      subst e8
                      subst e9
                      subst e10
                      subst e11
                      subst e12
                      subst q13
                      exact gRv hx hb hr hlocks hP hS dX5_readsItem_301
                · have hf := pif hf c_44
                  refine lv_aload_n hx hb dX5_readsItem_270 rfl (lv_at hl 3 rfl) ?_
                  refine va_get (D := (dC, dI)) (ci := 5) (v := .ref a_o_placeTold) (C := RX5) (T := TX5) (N := 29) hx hb hts uX5_readsItem_X5 hown hK hP 0 rfl rfl 12 (by decide) (hts _ mX5_readsItem_3) (fun _ h9 => h9) rfl dX5_readsItem_271 ?_
                  refine lv_bipush (v := (6 : Int32)) hx hb dX5_readsItem_274 (by decide) ?_
                  refine lv_iload_n hx hb dX5_readsItem_276 rfl (lv_at hl 2 rfl) ?_
                  refine lv_iadd hx hb dX5_readsItem_277 ?_
                  refine lv_iload_n hx hb dX5_readsItem_278 rfl (lv_at hl 1 rfl) ?_
                  obtain ⟨h_47, hf⟩ := pgd hf
                  refine va_iast hx hb hK hP hD hS 5 1 rfl rfl h_47 dX5_readsItem_279 (fun H locs hP hD hS => ?_)
                  have hP : va_P (dC, dI) vwCl [(a_o, .inr (5, [.int o_thrown, .long o_trace, .ref a_o_text, .int o_typed, .int o_next_11, .int o_token_12, .int o_place_13, .int o_value_14, .int o_fault_15, .ref a_o_need, .ref a_o_made, .ref a_o_skillTold, .ref a_o_placeTold, .ref a_o_skips, .ref a_o_wheelTold, .int o_trades, .int o_people, .int o_draftTrades, .int o_draftPeople, .int o_isShut, .ref a_o_tunes, .ref a_o_s, .ref a_o_spare, .ref a_o_kept, .ref a_o_isKept, .ref a_o_makes, .ref a_o_works, .ref a_o_order, .int o_falling])), (a_o_text, .inl (cI, 400, .inl o_text)), (a_o_need, .inl (cI, 12, .inl o_need)), (a_o_made, .inl (cI, 12, .inl o_made)), (a_o_skillTold, .inl (cI, 72, .inl o_skillTold)), (a_o_placeTold, .inl (cI, 12, .inl (upd o_placeTold ((6 : Int32) + r_4).toNatClampNeg r_10))), (a_o_skips, .inl (cI, 12, .inl o_skips)), (a_o_wheelTold, .inl (cI, 12, .inl o_wheelTold))] H := hP
                  have hD : va_D A [(a_o, .inr (5, [.int o_thrown, .long o_trace, .ref a_o_text, .int o_typed, .int o_next_11, .int o_token_12, .int o_place_13, .int o_value_14, .int o_fault_15, .ref a_o_need, .ref a_o_made, .ref a_o_skillTold, .ref a_o_placeTold, .ref a_o_skips, .ref a_o_wheelTold, .int o_trades, .int o_people, .int o_draftTrades, .int o_draftPeople, .int o_isShut, .ref a_o_tunes, .ref a_o_s, .ref a_o_spare, .ref a_o_kept, .ref a_o_isKept, .ref a_o_makes, .ref a_o_works, .ref a_o_order, .int o_falling])), (a_o_text, .inl (cI, 400, .inl o_text)), (a_o_need, .inl (cI, 12, .inl o_need)), (a_o_made, .inl (cI, 12, .inl o_made)), (a_o_skillTold, .inl (cI, 72, .inl o_skillTold)), (a_o_placeTold, .inl (cI, 12, .inl (upd o_placeTold ((6 : Int32) + r_4).toNatClampNeg r_10))), (a_o_skips, .inl (cI, 12, .inl o_skips)), (a_o_wheelTold, .inl (cI, 12, .inl o_wheelTold))] := hD
                  refine lv_aload_n hx hb dX5_readsItem_280 rfl (lv_at hl 3 rfl) ?_
                  refine lv_aload_n hx hb dX5_readsItem_281 rfl (lv_at hl 3 rfl) ?_
                  refine va_get (D := (dC, dI)) (ci := 5) (v := .int o_isShut) (C := RX5) (T := TX5) (N := 29) hx hb hts uX5_readsItem_X5 hown hK hP 0 rfl rfl 19 (by decide) (hts _ mX5_readsItem_2) (fun _ h9 => h9) rfl dX5_readsItem_282 ?_
                  refine lv_if_ne (tgt := 293) hx hb dX5_readsItem_285 (by decide) (fun c_48 => ?_) (fun c_48 => ?_)
                  · have hf := pif hf c_48
                    refine lv_iconst (v := (1 : Int32)) hx hb dX5_readsItem_293 (by decide) ?_
                    refine lv_goto (tgt := 298) hx hb dX5_readsItem_294 (by decide) ?_
                    refine va_put (D := (dC, dI)) (ci := 5) (v := .int (1 : Int32)) (ty := .boolean) (C := RX5) (T := TX5) (N := 29) hx hb hts uX5_readsItem_X5 tyX5 tyX5_ok nmX5 hown hK hP hD hS 0 rfl rfl 19 (by decide) (hts _ mX5_readsItem_2) (fun _ h9 => h9) rfl (by decide +kernel) rfl rfl (Nat.le_of_ble_eq_true rfl) dX5_readsItem_298 (fun H locs hP hD hS => ?_)
                    have hP : va_P (dC, dI) vwCl [(a_o, .inr (5, [.int o_thrown, .long o_trace, .ref a_o_text, .int o_typed, .int o_next_11, .int o_token_12, .int o_place_13, .int o_value_14, .int o_fault_15, .ref a_o_need, .ref a_o_made, .ref a_o_skillTold, .ref a_o_placeTold, .ref a_o_skips, .ref a_o_wheelTold, .int o_trades, .int o_people, .int o_draftTrades, .int o_draftPeople, .int (1 : Int32), .ref a_o_tunes, .ref a_o_s, .ref a_o_spare, .ref a_o_kept, .ref a_o_isKept, .ref a_o_makes, .ref a_o_works, .ref a_o_order, .int o_falling])), (a_o_text, .inl (cI, 400, .inl o_text)), (a_o_need, .inl (cI, 12, .inl o_need)), (a_o_made, .inl (cI, 12, .inl o_made)), (a_o_skillTold, .inl (cI, 72, .inl o_skillTold)), (a_o_placeTold, .inl (cI, 12, .inl (upd o_placeTold ((6 : Int32) + r_4).toNatClampNeg r_10))), (a_o_skips, .inl (cI, 12, .inl o_skips)), (a_o_wheelTold, .inl (cI, 12, .inl o_wheelTold))] H := hP
                    have hD : va_D A [(a_o, .inr (5, [.int o_thrown, .long o_trace, .ref a_o_text, .int o_typed, .int o_next_11, .int o_token_12, .int o_place_13, .int o_value_14, .int o_fault_15, .ref a_o_need, .ref a_o_made, .ref a_o_skillTold, .ref a_o_placeTold, .ref a_o_skips, .ref a_o_wheelTold, .int o_trades, .int o_people, .int o_draftTrades, .int o_draftPeople, .int (1 : Int32), .ref a_o_tunes, .ref a_o_s, .ref a_o_spare, .ref a_o_kept, .ref a_o_isKept, .ref a_o_makes, .ref a_o_works, .ref a_o_order, .int o_falling])), (a_o_text, .inl (cI, 400, .inl o_text)), (a_o_need, .inl (cI, 12, .inl o_need)), (a_o_made, .inl (cI, 12, .inl o_made)), (a_o_skillTold, .inl (cI, 72, .inl o_skillTold)), (a_o_placeTold, .inl (cI, 12, .inl (upd o_placeTold ((6 : Int32) + r_4).toNatClampNeg r_10))), (a_o_skips, .inl (cI, 12, .inl o_skips)), (a_o_wheelTold, .inl (cI, 12, .inl o_wheelTold))] := hD
                    have q0 := Option.some.inj hf
                    obtain ⟨e0, q1⟩ := Prod.mk.inj q0
                    obtain ⟨e1, q2⟩ := Prod.mk.inj q1
                    obtain ⟨e2, q3⟩ := Prod.mk.inj q2
                    obtain ⟨e3, q4⟩ := Prod.mk.inj q3
                    obtain ⟨e4, q5⟩ := Prod.mk.inj q4
                    obtain ⟨e5, q6⟩ := Prod.mk.inj q5
                    obtain ⟨e6, q7⟩ := Prod.mk.inj q6
                    obtain ⟨e7, q8⟩ := Prod.mk.inj q7
                    obtain ⟨e8, q9⟩ := Prod.mk.inj q8
                    obtain ⟨e9, q10⟩ := Prod.mk.inj q9
                    obtain ⟨e10, q11⟩ := Prod.mk.inj q10
                    obtain ⟨e11, q12⟩ := Prod.mk.inj q11
                    obtain ⟨e12, q13⟩ := Prod.mk.inj q12
                    subst e0
                    subst e1
                    subst e2
                    subst e3
                    subst e4
                    subst e5
                    subst e6
                    subst e7
                    subst e8
                    subst e9
                    subst e10
                    subst e11
                    subst e12
                    subst q13
                    exact gRv hx hb hr hlocks hP hS dX5_readsItem_301
                  · have hf := pit hf c_48
                    refine lv_iload_n hx hb dX5_readsItem_288 rfl (lv_at hl 4 rfl) ?_
                    refine lv_iconst (v := (1 : Int32)) hx hb dX5_readsItem_289 (by decide) ?_
                    refine lv_icmp_le (tgt := 297) hx hb dX5_readsItem_290 (by decide) (fun c_49 => ?_) (fun c_49 => ?_)
                    · have hf := pit hf c_49
                      refine lv_iconst (v := (0 : Int32)) hx hb dX5_readsItem_297 (by decide) ?_
                      refine va_put (D := (dC, dI)) (ci := 5) (v := .int (0 : Int32)) (ty := .boolean) (C := RX5) (T := TX5) (N := 29) hx hb hts uX5_readsItem_X5 tyX5 tyX5_ok nmX5 hown hK hP hD hS 0 rfl rfl 19 (by decide) (hts _ mX5_readsItem_2) (fun _ h9 => h9) rfl (by decide +kernel) rfl rfl (Nat.le_of_ble_eq_true rfl) dX5_readsItem_298 (fun H locs hP hD hS => ?_)
                      have hP : va_P (dC, dI) vwCl [(a_o, .inr (5, [.int o_thrown, .long o_trace, .ref a_o_text, .int o_typed, .int o_next_11, .int o_token_12, .int o_place_13, .int o_value_14, .int o_fault_15, .ref a_o_need, .ref a_o_made, .ref a_o_skillTold, .ref a_o_placeTold, .ref a_o_skips, .ref a_o_wheelTold, .int o_trades, .int o_people, .int o_draftTrades, .int o_draftPeople, .int (0 : Int32), .ref a_o_tunes, .ref a_o_s, .ref a_o_spare, .ref a_o_kept, .ref a_o_isKept, .ref a_o_makes, .ref a_o_works, .ref a_o_order, .int o_falling])), (a_o_text, .inl (cI, 400, .inl o_text)), (a_o_need, .inl (cI, 12, .inl o_need)), (a_o_made, .inl (cI, 12, .inl o_made)), (a_o_skillTold, .inl (cI, 72, .inl o_skillTold)), (a_o_placeTold, .inl (cI, 12, .inl (upd o_placeTold ((6 : Int32) + r_4).toNatClampNeg r_10))), (a_o_skips, .inl (cI, 12, .inl o_skips)), (a_o_wheelTold, .inl (cI, 12, .inl o_wheelTold))] H := hP
                      have hD : va_D A [(a_o, .inr (5, [.int o_thrown, .long o_trace, .ref a_o_text, .int o_typed, .int o_next_11, .int o_token_12, .int o_place_13, .int o_value_14, .int o_fault_15, .ref a_o_need, .ref a_o_made, .ref a_o_skillTold, .ref a_o_placeTold, .ref a_o_skips, .ref a_o_wheelTold, .int o_trades, .int o_people, .int o_draftTrades, .int o_draftPeople, .int (0 : Int32), .ref a_o_tunes, .ref a_o_s, .ref a_o_spare, .ref a_o_kept, .ref a_o_isKept, .ref a_o_makes, .ref a_o_works, .ref a_o_order, .int o_falling])), (a_o_text, .inl (cI, 400, .inl o_text)), (a_o_need, .inl (cI, 12, .inl o_need)), (a_o_made, .inl (cI, 12, .inl o_made)), (a_o_skillTold, .inl (cI, 72, .inl o_skillTold)), (a_o_placeTold, .inl (cI, 12, .inl (upd o_placeTold ((6 : Int32) + r_4).toNatClampNeg r_10))), (a_o_skips, .inl (cI, 12, .inl o_skips)), (a_o_wheelTold, .inl (cI, 12, .inl o_wheelTold))] := hD
                      have q0 := Option.some.inj hf
                      obtain ⟨e0, q1⟩ := Prod.mk.inj q0
                      obtain ⟨e1, q2⟩ := Prod.mk.inj q1
                      obtain ⟨e2, q3⟩ := Prod.mk.inj q2
                      obtain ⟨e3, q4⟩ := Prod.mk.inj q3
                      obtain ⟨e4, q5⟩ := Prod.mk.inj q4
                      obtain ⟨e5, q6⟩ := Prod.mk.inj q5
                      obtain ⟨e6, q7⟩ := Prod.mk.inj q6
                      obtain ⟨e7, q8⟩ := Prod.mk.inj q7
                      obtain ⟨e8, q9⟩ := Prod.mk.inj q8
                      obtain ⟨e9, q10⟩ := Prod.mk.inj q9
                      obtain ⟨e10, q11⟩ := Prod.mk.inj q10
                      obtain ⟨e11, q12⟩ := Prod.mk.inj q11
                      obtain ⟨e12, q13⟩ := Prod.mk.inj q12
                      subst e0
                      subst e1
                      subst e2
                      subst e3
                      subst e4
                      subst e5
                      subst e6
                      subst e7
                      subst e8
                      subst e9
                      subst e10
                      subst e11
                      subst e12
                      subst q13
                      exact gRv hx hb hr hlocks hP hS dX5_readsItem_301
                    · have hf := pif hf c_49
                      refine lv_iconst (v := (1 : Int32)) hx hb dX5_readsItem_293 (by decide) ?_
                      refine lv_goto (tgt := 298) hx hb dX5_readsItem_294 (by decide) ?_
                      refine va_put (D := (dC, dI)) (ci := 5) (v := .int (1 : Int32)) (ty := .boolean) (C := RX5) (T := TX5) (N := 29) hx hb hts uX5_readsItem_X5 tyX5 tyX5_ok nmX5 hown hK hP hD hS 0 rfl rfl 19 (by decide) (hts _ mX5_readsItem_2) (fun _ h9 => h9) rfl (by decide +kernel) rfl rfl (Nat.le_of_ble_eq_true rfl) dX5_readsItem_298 (fun H locs hP hD hS => ?_)
                      have hP : va_P (dC, dI) vwCl [(a_o, .inr (5, [.int o_thrown, .long o_trace, .ref a_o_text, .int o_typed, .int o_next_11, .int o_token_12, .int o_place_13, .int o_value_14, .int o_fault_15, .ref a_o_need, .ref a_o_made, .ref a_o_skillTold, .ref a_o_placeTold, .ref a_o_skips, .ref a_o_wheelTold, .int o_trades, .int o_people, .int o_draftTrades, .int o_draftPeople, .int (1 : Int32), .ref a_o_tunes, .ref a_o_s, .ref a_o_spare, .ref a_o_kept, .ref a_o_isKept, .ref a_o_makes, .ref a_o_works, .ref a_o_order, .int o_falling])), (a_o_text, .inl (cI, 400, .inl o_text)), (a_o_need, .inl (cI, 12, .inl o_need)), (a_o_made, .inl (cI, 12, .inl o_made)), (a_o_skillTold, .inl (cI, 72, .inl o_skillTold)), (a_o_placeTold, .inl (cI, 12, .inl (upd o_placeTold ((6 : Int32) + r_4).toNatClampNeg r_10))), (a_o_skips, .inl (cI, 12, .inl o_skips)), (a_o_wheelTold, .inl (cI, 12, .inl o_wheelTold))] H := hP
                      have hD : va_D A [(a_o, .inr (5, [.int o_thrown, .long o_trace, .ref a_o_text, .int o_typed, .int o_next_11, .int o_token_12, .int o_place_13, .int o_value_14, .int o_fault_15, .ref a_o_need, .ref a_o_made, .ref a_o_skillTold, .ref a_o_placeTold, .ref a_o_skips, .ref a_o_wheelTold, .int o_trades, .int o_people, .int o_draftTrades, .int o_draftPeople, .int (1 : Int32), .ref a_o_tunes, .ref a_o_s, .ref a_o_spare, .ref a_o_kept, .ref a_o_isKept, .ref a_o_makes, .ref a_o_works, .ref a_o_order, .int o_falling])), (a_o_text, .inl (cI, 400, .inl o_text)), (a_o_need, .inl (cI, 12, .inl o_need)), (a_o_made, .inl (cI, 12, .inl o_made)), (a_o_skillTold, .inl (cI, 72, .inl o_skillTold)), (a_o_placeTold, .inl (cI, 12, .inl (upd o_placeTold ((6 : Int32) + r_4).toNatClampNeg r_10))), (a_o_skips, .inl (cI, 12, .inl o_skips)), (a_o_wheelTold, .inl (cI, 12, .inl o_wheelTold))] := hD
                      have q0 := Option.some.inj hf
                      obtain ⟨e0, q1⟩ := Prod.mk.inj q0
                      obtain ⟨e1, q2⟩ := Prod.mk.inj q1
                      obtain ⟨e2, q3⟩ := Prod.mk.inj q2
                      obtain ⟨e3, q4⟩ := Prod.mk.inj q3
                      obtain ⟨e4, q5⟩ := Prod.mk.inj q4
                      obtain ⟨e5, q6⟩ := Prod.mk.inj q5
                      obtain ⟨e6, q7⟩ := Prod.mk.inj q6
                      obtain ⟨e7, q8⟩ := Prod.mk.inj q7
                      obtain ⟨e8, q9⟩ := Prod.mk.inj q8
                      obtain ⟨e9, q10⟩ := Prod.mk.inj q9
                      obtain ⟨e10, q11⟩ := Prod.mk.inj q10
                      obtain ⟨e11, q12⟩ := Prod.mk.inj q11
                      obtain ⟨e12, q13⟩ := Prod.mk.inj q12
                      subst e0
                      subst e1
                      subst e2
                      subst e3
                      subst e4
                      subst e5
                      subst e6
                      subst e7
                      subst e8
                      subst e9
                      subst e10
                      subst e11
                      subst e12
                      subst q13
                      exact gRv hx hb hr hlocks hP hS dX5_readsItem_301
              · have hf := pif hf c_42
                refine lv_iload_n hx hb dX5_readsItem_240 rfl (lv_at hl 4 rfl) ?_
                refine lv_iconst (v := (3 : Int32)) hx hb dX5_readsItem_241 (by decide) ?_
                refine lv_icmp_ne (tgt := 263) hx hb dX5_readsItem_242 (by decide) (fun c_50 => ?_) (fun c_50 => ?_)
                · have hf := pif hf c_50
                  refine lv_aload_n hx hb dX5_readsItem_263 rfl (lv_at hl 3 rfl) ?_
                  obtain ⟨r_51, hc, hf⟩ := pb1 hf
                  refine gCi (va_runV (As := []) (rest := []) hF (kX5_isWell l dC dI Z cC cI cZ cW a_o a_o_text a_o_need a_o_made a_o_skillTold a_o_placeTold a_o_skips a_o_wheelTold a_o_tunes a_o_s a_o_spare a_o_kept a_o_isKept a_o_makes a_o_works a_o_order _ o_thrown o_trace o_typed o_next_11 o_token_12 o_place_13 o_value_14 o_fault_15 o_trades o_people o_draftTrades o_draftPeople o_isShut o_falling  N r_51 hc) (cwV 0 hts gX5_readsItem_X5_isWell rfl rfl rfl (by decide +kernel) ⟨Nat.le_of_ble_eq_true rfl, Nat.le_of_ble_eq_true rfl⟩) (gPV (wc := [(a_o, .inr (5, [.int o_thrown, .long o_trace, .ref a_o_text, .int o_typed, .int o_next_11, .int o_token_12, .int o_place_13, .int o_value_14, .int o_fault_15, .ref a_o_need, .ref a_o_made, .ref a_o_skillTold, .ref a_o_placeTold, .ref a_o_skips, .ref a_o_wheelTold, .int o_trades, .int o_people, .int o_draftTrades, .int o_draftPeople, .int o_isShut, .ref a_o_tunes, .ref a_o_s, .ref a_o_spare, .ref a_o_kept, .ref a_o_isKept, .ref a_o_makes, .ref a_o_works, .ref a_o_order, .int o_falling]))]) hK hN hA hS hP hD [0] rfl rfl (q0 := 0) (ci := 5) rfl rfl rfl) rfl rfl hl.1 rfl (lv_room (Nat.le_of_ble_eq_true rfl)) dX5_readsItem_264 ⟨Nat.zero_le _, Nat.zero_le _⟩) hP hD hS hA [0] rfl rfl rfl (fun H locs hP hD hS => ?_)
                  have hP : va_P (dC, dI) vwCl [(a_o, .inr (5, [.int o_thrown, .long o_trace, .ref a_o_text, .int o_typed, .int o_next_11, .int o_token_12, .int o_place_13, .int o_value_14, .int o_fault_15, .ref a_o_need, .ref a_o_made, .ref a_o_skillTold, .ref a_o_placeTold, .ref a_o_skips, .ref a_o_wheelTold, .int o_trades, .int o_people, .int o_draftTrades, .int o_draftPeople, .int o_isShut, .ref a_o_tunes, .ref a_o_s, .ref a_o_spare, .ref a_o_kept, .ref a_o_isKept, .ref a_o_makes, .ref a_o_works, .ref a_o_order, .int o_falling])), (a_o_text, .inl (cI, 400, .inl o_text)), (a_o_need, .inl (cI, 12, .inl o_need)), (a_o_made, .inl (cI, 12, .inl o_made)), (a_o_skillTold, .inl (cI, 72, .inl o_skillTold)), (a_o_placeTold, .inl (cI, 12, .inl o_placeTold)), (a_o_skips, .inl (cI, 12, .inl o_skips)), (a_o_wheelTold, .inl (cI, 12, .inl o_wheelTold))] H := hP
                  have hD : va_D A [(a_o, .inr (5, [.int o_thrown, .long o_trace, .ref a_o_text, .int o_typed, .int o_next_11, .int o_token_12, .int o_place_13, .int o_value_14, .int o_fault_15, .ref a_o_need, .ref a_o_made, .ref a_o_skillTold, .ref a_o_placeTold, .ref a_o_skips, .ref a_o_wheelTold, .int o_trades, .int o_people, .int o_draftTrades, .int o_draftPeople, .int o_isShut, .ref a_o_tunes, .ref a_o_s, .ref a_o_spare, .ref a_o_kept, .ref a_o_isKept, .ref a_o_makes, .ref a_o_works, .ref a_o_order, .int o_falling])), (a_o_text, .inl (cI, 400, .inl o_text)), (a_o_need, .inl (cI, 12, .inl o_need)), (a_o_made, .inl (cI, 12, .inl o_made)), (a_o_skillTold, .inl (cI, 72, .inl o_skillTold)), (a_o_placeTold, .inl (cI, 12, .inl o_placeTold)), (a_o_skips, .inl (cI, 12, .inl o_skips)), (a_o_wheelTold, .inl (cI, 12, .inl o_wheelTold))] := hD
                  refine lv_if_eq (tgt := 280) hx hb dX5_readsItem_267 (by decide) (fun c_52 => ?_) (fun c_52 => ?_)
                  · have hf := pit hf c_52
                    refine lv_aload_n hx hb dX5_readsItem_280 rfl (lv_at hl 3 rfl) ?_
                    refine lv_aload_n hx hb dX5_readsItem_281 rfl (lv_at hl 3 rfl) ?_
                    refine va_get (D := (dC, dI)) (ci := 5) (v := .int o_isShut) (C := RX5) (T := TX5) (N := 29) hx hb hts uX5_readsItem_X5 hown hK hP 0 rfl rfl 19 (by decide) (hts _ mX5_readsItem_2) (fun _ h9 => h9) rfl dX5_readsItem_282 ?_
                    refine lv_if_ne (tgt := 293) hx hb dX5_readsItem_285 (by decide) (fun c_53 => ?_) (fun c_53 => ?_)
                    · have hf := pif hf c_53
                      refine lv_iconst (v := (1 : Int32)) hx hb dX5_readsItem_293 (by decide) ?_
                      refine lv_goto (tgt := 298) hx hb dX5_readsItem_294 (by decide) ?_
                      refine va_put (D := (dC, dI)) (ci := 5) (v := .int (1 : Int32)) (ty := .boolean) (C := RX5) (T := TX5) (N := 29) hx hb hts uX5_readsItem_X5 tyX5 tyX5_ok nmX5 hown hK hP hD hS 0 rfl rfl 19 (by decide) (hts _ mX5_readsItem_2) (fun _ h9 => h9) rfl (by decide +kernel) rfl rfl (Nat.le_of_ble_eq_true rfl) dX5_readsItem_298 (fun H locs hP hD hS => ?_)
                      have hP : va_P (dC, dI) vwCl [(a_o, .inr (5, [.int o_thrown, .long o_trace, .ref a_o_text, .int o_typed, .int o_next_11, .int o_token_12, .int o_place_13, .int o_value_14, .int o_fault_15, .ref a_o_need, .ref a_o_made, .ref a_o_skillTold, .ref a_o_placeTold, .ref a_o_skips, .ref a_o_wheelTold, .int o_trades, .int o_people, .int o_draftTrades, .int o_draftPeople, .int (1 : Int32), .ref a_o_tunes, .ref a_o_s, .ref a_o_spare, .ref a_o_kept, .ref a_o_isKept, .ref a_o_makes, .ref a_o_works, .ref a_o_order, .int o_falling])), (a_o_text, .inl (cI, 400, .inl o_text)), (a_o_need, .inl (cI, 12, .inl o_need)), (a_o_made, .inl (cI, 12, .inl o_made)), (a_o_skillTold, .inl (cI, 72, .inl o_skillTold)), (a_o_placeTold, .inl (cI, 12, .inl o_placeTold)), (a_o_skips, .inl (cI, 12, .inl o_skips)), (a_o_wheelTold, .inl (cI, 12, .inl o_wheelTold))] H := hP
                      have hD : va_D A [(a_o, .inr (5, [.int o_thrown, .long o_trace, .ref a_o_text, .int o_typed, .int o_next_11, .int o_token_12, .int o_place_13, .int o_value_14, .int o_fault_15, .ref a_o_need, .ref a_o_made, .ref a_o_skillTold, .ref a_o_placeTold, .ref a_o_skips, .ref a_o_wheelTold, .int o_trades, .int o_people, .int o_draftTrades, .int o_draftPeople, .int (1 : Int32), .ref a_o_tunes, .ref a_o_s, .ref a_o_spare, .ref a_o_kept, .ref a_o_isKept, .ref a_o_makes, .ref a_o_works, .ref a_o_order, .int o_falling])), (a_o_text, .inl (cI, 400, .inl o_text)), (a_o_need, .inl (cI, 12, .inl o_need)), (a_o_made, .inl (cI, 12, .inl o_made)), (a_o_skillTold, .inl (cI, 72, .inl o_skillTold)), (a_o_placeTold, .inl (cI, 12, .inl o_placeTold)), (a_o_skips, .inl (cI, 12, .inl o_skips)), (a_o_wheelTold, .inl (cI, 12, .inl o_wheelTold))] := hD
                      have q0 := Option.some.inj hf
                      obtain ⟨e0, q1⟩ := Prod.mk.inj q0
                      obtain ⟨e1, q2⟩ := Prod.mk.inj q1
                      obtain ⟨e2, q3⟩ := Prod.mk.inj q2
                      obtain ⟨e3, q4⟩ := Prod.mk.inj q3
                      obtain ⟨e4, q5⟩ := Prod.mk.inj q4
                      obtain ⟨e5, q6⟩ := Prod.mk.inj q5
                      obtain ⟨e6, q7⟩ := Prod.mk.inj q6
                      obtain ⟨e7, q8⟩ := Prod.mk.inj q7
                      obtain ⟨e8, q9⟩ := Prod.mk.inj q8
                      obtain ⟨e9, q10⟩ := Prod.mk.inj q9
                      obtain ⟨e10, q11⟩ := Prod.mk.inj q10
                      obtain ⟨e11, q12⟩ := Prod.mk.inj q11
                      obtain ⟨e12, q13⟩ := Prod.mk.inj q12
                      subst e0
                      subst e1
                      subst e2
                      subst e3
                      subst e4
                      subst e5
                      subst e6
                      subst e7
                      subst e8
                      subst e9
                      subst e10
                      subst e11
                      subst e12
                      subst q13
                      exact gRv hx hb hr hlocks hP hS dX5_readsItem_301
                    · have hf := pit hf c_53
                      refine lv_iload_n hx hb dX5_readsItem_288 rfl (lv_at hl 4 rfl) ?_
                      refine lv_iconst (v := (1 : Int32)) hx hb dX5_readsItem_289 (by decide) ?_
                      refine lv_icmp_le (tgt := 297) hx hb dX5_readsItem_290 (by decide) (fun c_54 => ?_) (fun c_54 => ?_)
                      · have hf := pit hf c_54
                        refine lv_iconst (v := (0 : Int32)) hx hb dX5_readsItem_297 (by decide) ?_
                        refine va_put (D := (dC, dI)) (ci := 5) (v := .int (0 : Int32)) (ty := .boolean) (C := RX5) (T := TX5) (N := 29) hx hb hts uX5_readsItem_X5 tyX5 tyX5_ok nmX5 hown hK hP hD hS 0 rfl rfl 19 (by decide) (hts _ mX5_readsItem_2) (fun _ h9 => h9) rfl (by decide +kernel) rfl rfl (Nat.le_of_ble_eq_true rfl) dX5_readsItem_298 (fun H locs hP hD hS => ?_)
                        have hP : va_P (dC, dI) vwCl [(a_o, .inr (5, [.int o_thrown, .long o_trace, .ref a_o_text, .int o_typed, .int o_next_11, .int o_token_12, .int o_place_13, .int o_value_14, .int o_fault_15, .ref a_o_need, .ref a_o_made, .ref a_o_skillTold, .ref a_o_placeTold, .ref a_o_skips, .ref a_o_wheelTold, .int o_trades, .int o_people, .int o_draftTrades, .int o_draftPeople, .int (0 : Int32), .ref a_o_tunes, .ref a_o_s, .ref a_o_spare, .ref a_o_kept, .ref a_o_isKept, .ref a_o_makes, .ref a_o_works, .ref a_o_order, .int o_falling])), (a_o_text, .inl (cI, 400, .inl o_text)), (a_o_need, .inl (cI, 12, .inl o_need)), (a_o_made, .inl (cI, 12, .inl o_made)), (a_o_skillTold, .inl (cI, 72, .inl o_skillTold)), (a_o_placeTold, .inl (cI, 12, .inl o_placeTold)), (a_o_skips, .inl (cI, 12, .inl o_skips)), (a_o_wheelTold, .inl (cI, 12, .inl o_wheelTold))] H := hP
                        have hD : va_D A [(a_o, .inr (5, [.int o_thrown, .long o_trace, .ref a_o_text, .int o_typed, .int o_next_11, .int o_token_12, .int o_place_13, .int o_value_14, .int o_fault_15, .ref a_o_need, .ref a_o_made, .ref a_o_skillTold, .ref a_o_placeTold, .ref a_o_skips, .ref a_o_wheelTold, .int o_trades, .int o_people, .int o_draftTrades, .int o_draftPeople, .int (0 : Int32), .ref a_o_tunes, .ref a_o_s, .ref a_o_spare, .ref a_o_kept, .ref a_o_isKept, .ref a_o_makes, .ref a_o_works, .ref a_o_order, .int o_falling])), (a_o_text, .inl (cI, 400, .inl o_text)), (a_o_need, .inl (cI, 12, .inl o_need)), (a_o_made, .inl (cI, 12, .inl o_made)), (a_o_skillTold, .inl (cI, 72, .inl o_skillTold)), (a_o_placeTold, .inl (cI, 12, .inl o_placeTold)), (a_o_skips, .inl (cI, 12, .inl o_skips)), (a_o_wheelTold, .inl (cI, 12, .inl o_wheelTold))] := hD
                        have q0 := Option.some.inj hf
                        obtain ⟨e0, q1⟩ := Prod.mk.inj q0
                        obtain ⟨e1, q2⟩ := Prod.mk.inj q1
                        obtain ⟨e2, q3⟩ := Prod.mk.inj q2
                        obtain ⟨e3, q4⟩ := Prod.mk.inj q3
                        obtain ⟨e4, q5⟩ := Prod.mk.inj q4
                        obtain ⟨e5, q6⟩ := Prod.mk.inj q5
                        obtain ⟨e6, q7⟩ := Prod.mk.inj q6
                        obtain ⟨e7, q8⟩ := Prod.mk.inj q7
                        obtain ⟨e8, q9⟩ := Prod.mk.inj q8
                        obtain ⟨e9, q10⟩ := Prod.mk.inj q9
                        obtain ⟨e10, q11⟩ := Prod.mk.inj q10
                        obtain ⟨e11, q12⟩ := Prod.mk.inj q11
                        obtain ⟨e12, q13⟩ := Prod.mk.inj q12
                        subst e0
                        subst e1
                        subst e2
                        subst e3
                        subst e4
                        subst e5
                        subst e6
                        subst e7
                        subst e8
                        subst e9
                        subst e10
                        subst e11
                        subst e12
                        subst q13
                        exact gRv hx hb hr hlocks hP hS dX5_readsItem_301
                      · have hf := pif hf c_54
                        refine lv_iconst (v := (1 : Int32)) hx hb dX5_readsItem_293 (by decide) ?_
                        refine lv_goto (tgt := 298) hx hb dX5_readsItem_294 (by decide) ?_
                        refine va_put (D := (dC, dI)) (ci := 5) (v := .int (1 : Int32)) (ty := .boolean) (C := RX5) (T := TX5) (N := 29) hx hb hts uX5_readsItem_X5 tyX5 tyX5_ok nmX5 hown hK hP hD hS 0 rfl rfl 19 (by decide) (hts _ mX5_readsItem_2) (fun _ h9 => h9) rfl (by decide +kernel) rfl rfl (Nat.le_of_ble_eq_true rfl) dX5_readsItem_298 (fun H locs hP hD hS => ?_)
                        have hP : va_P (dC, dI) vwCl [(a_o, .inr (5, [.int o_thrown, .long o_trace, .ref a_o_text, .int o_typed, .int o_next_11, .int o_token_12, .int o_place_13, .int o_value_14, .int o_fault_15, .ref a_o_need, .ref a_o_made, .ref a_o_skillTold, .ref a_o_placeTold, .ref a_o_skips, .ref a_o_wheelTold, .int o_trades, .int o_people, .int o_draftTrades, .int o_draftPeople, .int (1 : Int32), .ref a_o_tunes, .ref a_o_s, .ref a_o_spare, .ref a_o_kept, .ref a_o_isKept, .ref a_o_makes, .ref a_o_works, .ref a_o_order, .int o_falling])), (a_o_text, .inl (cI, 400, .inl o_text)), (a_o_need, .inl (cI, 12, .inl o_need)), (a_o_made, .inl (cI, 12, .inl o_made)), (a_o_skillTold, .inl (cI, 72, .inl o_skillTold)), (a_o_placeTold, .inl (cI, 12, .inl o_placeTold)), (a_o_skips, .inl (cI, 12, .inl o_skips)), (a_o_wheelTold, .inl (cI, 12, .inl o_wheelTold))] H := hP
                        have hD : va_D A [(a_o, .inr (5, [.int o_thrown, .long o_trace, .ref a_o_text, .int o_typed, .int o_next_11, .int o_token_12, .int o_place_13, .int o_value_14, .int o_fault_15, .ref a_o_need, .ref a_o_made, .ref a_o_skillTold, .ref a_o_placeTold, .ref a_o_skips, .ref a_o_wheelTold, .int o_trades, .int o_people, .int o_draftTrades, .int o_draftPeople, .int (1 : Int32), .ref a_o_tunes, .ref a_o_s, .ref a_o_spare, .ref a_o_kept, .ref a_o_isKept, .ref a_o_makes, .ref a_o_works, .ref a_o_order, .int o_falling])), (a_o_text, .inl (cI, 400, .inl o_text)), (a_o_need, .inl (cI, 12, .inl o_need)), (a_o_made, .inl (cI, 12, .inl o_made)), (a_o_skillTold, .inl (cI, 72, .inl o_skillTold)), (a_o_placeTold, .inl (cI, 12, .inl o_placeTold)), (a_o_skips, .inl (cI, 12, .inl o_skips)), (a_o_wheelTold, .inl (cI, 12, .inl o_wheelTold))] := hD
                        have q0 := Option.some.inj hf
                        obtain ⟨e0, q1⟩ := Prod.mk.inj q0
                        obtain ⟨e1, q2⟩ := Prod.mk.inj q1
                        obtain ⟨e2, q3⟩ := Prod.mk.inj q2
                        obtain ⟨e3, q4⟩ := Prod.mk.inj q3
                        obtain ⟨e4, q5⟩ := Prod.mk.inj q4
                        obtain ⟨e5, q6⟩ := Prod.mk.inj q5
                        obtain ⟨e6, q7⟩ := Prod.mk.inj q6
                        obtain ⟨e7, q8⟩ := Prod.mk.inj q7
                        obtain ⟨e8, q9⟩ := Prod.mk.inj q8
                        obtain ⟨e9, q10⟩ := Prod.mk.inj q9
                        obtain ⟨e10, q11⟩ := Prod.mk.inj q10
                        obtain ⟨e11, q12⟩ := Prod.mk.inj q11
                        obtain ⟨e12, q13⟩ := Prod.mk.inj q12
                        subst e0
                        subst e1
                        subst e2
                        subst e3
                        subst e4
                        subst e5
                        subst e6
                        subst e7
                        subst e8
                        subst e9
                        subst e10
                        subst e11
                        subst e12
                        subst q13
                        exact gRv hx hb hr hlocks hP hS dX5_readsItem_301
                  · have hf := pif hf c_52
                    refine lv_aload_n hx hb dX5_readsItem_270 rfl (lv_at hl 3 rfl) ?_
                    refine va_get (D := (dC, dI)) (ci := 5) (v := .ref a_o_placeTold) (C := RX5) (T := TX5) (N := 29) hx hb hts uX5_readsItem_X5 hown hK hP 0 rfl rfl 12 (by decide) (hts _ mX5_readsItem_3) (fun _ h9 => h9) rfl dX5_readsItem_271 ?_
                    refine lv_bipush (v := (6 : Int32)) hx hb dX5_readsItem_274 (by decide) ?_
                    refine lv_iload_n hx hb dX5_readsItem_276 rfl (lv_at hl 2 rfl) ?_
                    refine lv_iadd hx hb dX5_readsItem_277 ?_
                    refine lv_iload_n hx hb dX5_readsItem_278 rfl (lv_at hl 1 rfl) ?_
                    obtain ⟨h_55, hf⟩ := pgd hf
                    refine va_iast hx hb hK hP hD hS 5 1 rfl rfl h_55 dX5_readsItem_279 (fun H locs hP hD hS => ?_)
                    have hP : va_P (dC, dI) vwCl [(a_o, .inr (5, [.int o_thrown, .long o_trace, .ref a_o_text, .int o_typed, .int o_next_11, .int o_token_12, .int o_place_13, .int o_value_14, .int o_fault_15, .ref a_o_need, .ref a_o_made, .ref a_o_skillTold, .ref a_o_placeTold, .ref a_o_skips, .ref a_o_wheelTold, .int o_trades, .int o_people, .int o_draftTrades, .int o_draftPeople, .int o_isShut, .ref a_o_tunes, .ref a_o_s, .ref a_o_spare, .ref a_o_kept, .ref a_o_isKept, .ref a_o_makes, .ref a_o_works, .ref a_o_order, .int o_falling])), (a_o_text, .inl (cI, 400, .inl o_text)), (a_o_need, .inl (cI, 12, .inl o_need)), (a_o_made, .inl (cI, 12, .inl o_made)), (a_o_skillTold, .inl (cI, 72, .inl o_skillTold)), (a_o_placeTold, .inl (cI, 12, .inl (upd o_placeTold ((6 : Int32) + r_4).toNatClampNeg r_10))), (a_o_skips, .inl (cI, 12, .inl o_skips)), (a_o_wheelTold, .inl (cI, 12, .inl o_wheelTold))] H := hP
                    have hD : va_D A [(a_o, .inr (5, [.int o_thrown, .long o_trace, .ref a_o_text, .int o_typed, .int o_next_11, .int o_token_12, .int o_place_13, .int o_value_14, .int o_fault_15, .ref a_o_need, .ref a_o_made, .ref a_o_skillTold, .ref a_o_placeTold, .ref a_o_skips, .ref a_o_wheelTold, .int o_trades, .int o_people, .int o_draftTrades, .int o_draftPeople, .int o_isShut, .ref a_o_tunes, .ref a_o_s, .ref a_o_spare, .ref a_o_kept, .ref a_o_isKept, .ref a_o_makes, .ref a_o_works, .ref a_o_order, .int o_falling])), (a_o_text, .inl (cI, 400, .inl o_text)), (a_o_need, .inl (cI, 12, .inl o_need)), (a_o_made, .inl (cI, 12, .inl o_made)), (a_o_skillTold, .inl (cI, 72, .inl o_skillTold)), (a_o_placeTold, .inl (cI, 12, .inl (upd o_placeTold ((6 : Int32) + r_4).toNatClampNeg r_10))), (a_o_skips, .inl (cI, 12, .inl o_skips)), (a_o_wheelTold, .inl (cI, 12, .inl o_wheelTold))] := hD
                    refine lv_aload_n hx hb dX5_readsItem_280 rfl (lv_at hl 3 rfl) ?_
                    refine lv_aload_n hx hb dX5_readsItem_281 rfl (lv_at hl 3 rfl) ?_
                    refine va_get (D := (dC, dI)) (ci := 5) (v := .int o_isShut) (C := RX5) (T := TX5) (N := 29) hx hb hts uX5_readsItem_X5 hown hK hP 0 rfl rfl 19 (by decide) (hts _ mX5_readsItem_2) (fun _ h9 => h9) rfl dX5_readsItem_282 ?_
                    refine lv_if_ne (tgt := 293) hx hb dX5_readsItem_285 (by decide) (fun c_56 => ?_) (fun c_56 => ?_)
                    · have hf := pif hf c_56
                      refine lv_iconst (v := (1 : Int32)) hx hb dX5_readsItem_293 (by decide) ?_
                      refine lv_goto (tgt := 298) hx hb dX5_readsItem_294 (by decide) ?_
                      refine va_put (D := (dC, dI)) (ci := 5) (v := .int (1 : Int32)) (ty := .boolean) (C := RX5) (T := TX5) (N := 29) hx hb hts uX5_readsItem_X5 tyX5 tyX5_ok nmX5 hown hK hP hD hS 0 rfl rfl 19 (by decide) (hts _ mX5_readsItem_2) (fun _ h9 => h9) rfl (by decide +kernel) rfl rfl (Nat.le_of_ble_eq_true rfl) dX5_readsItem_298 (fun H locs hP hD hS => ?_)
                      have hP : va_P (dC, dI) vwCl [(a_o, .inr (5, [.int o_thrown, .long o_trace, .ref a_o_text, .int o_typed, .int o_next_11, .int o_token_12, .int o_place_13, .int o_value_14, .int o_fault_15, .ref a_o_need, .ref a_o_made, .ref a_o_skillTold, .ref a_o_placeTold, .ref a_o_skips, .ref a_o_wheelTold, .int o_trades, .int o_people, .int o_draftTrades, .int o_draftPeople, .int (1 : Int32), .ref a_o_tunes, .ref a_o_s, .ref a_o_spare, .ref a_o_kept, .ref a_o_isKept, .ref a_o_makes, .ref a_o_works, .ref a_o_order, .int o_falling])), (a_o_text, .inl (cI, 400, .inl o_text)), (a_o_need, .inl (cI, 12, .inl o_need)), (a_o_made, .inl (cI, 12, .inl o_made)), (a_o_skillTold, .inl (cI, 72, .inl o_skillTold)), (a_o_placeTold, .inl (cI, 12, .inl (upd o_placeTold ((6 : Int32) + r_4).toNatClampNeg r_10))), (a_o_skips, .inl (cI, 12, .inl o_skips)), (a_o_wheelTold, .inl (cI, 12, .inl o_wheelTold))] H := hP
                      have hD : va_D A [(a_o, .inr (5, [.int o_thrown, .long o_trace, .ref a_o_text, .int o_typed, .int o_next_11, .int o_token_12, .int o_place_13, .int o_value_14, .int o_fault_15, .ref a_o_need, .ref a_o_made, .ref a_o_skillTold, .ref a_o_placeTold, .ref a_o_skips, .ref a_o_wheelTold, .int o_trades, .int o_people, .int o_draftTrades, .int o_draftPeople, .int (1 : Int32), .ref a_o_tunes, .ref a_o_s, .ref a_o_spare, .ref a_o_kept, .ref a_o_isKept, .ref a_o_makes, .ref a_o_works, .ref a_o_order, .int o_falling])), (a_o_text, .inl (cI, 400, .inl o_text)), (a_o_need, .inl (cI, 12, .inl o_need)), (a_o_made, .inl (cI, 12, .inl o_made)), (a_o_skillTold, .inl (cI, 72, .inl o_skillTold)), (a_o_placeTold, .inl (cI, 12, .inl (upd o_placeTold ((6 : Int32) + r_4).toNatClampNeg r_10))), (a_o_skips, .inl (cI, 12, .inl o_skips)), (a_o_wheelTold, .inl (cI, 12, .inl o_wheelTold))] := hD
                      have q0 := Option.some.inj hf
                      obtain ⟨e0, q1⟩ := Prod.mk.inj q0
                      obtain ⟨e1, q2⟩ := Prod.mk.inj q1
                      obtain ⟨e2, q3⟩ := Prod.mk.inj q2
                      obtain ⟨e3, q4⟩ := Prod.mk.inj q3
                      obtain ⟨e4, q5⟩ := Prod.mk.inj q4
                      obtain ⟨e5, q6⟩ := Prod.mk.inj q5
                      obtain ⟨e6, q7⟩ := Prod.mk.inj q6
                      obtain ⟨e7, q8⟩ := Prod.mk.inj q7
                      obtain ⟨e8, q9⟩ := Prod.mk.inj q8
                      obtain ⟨e9, q10⟩ := Prod.mk.inj q9
                      obtain ⟨e10, q11⟩ := Prod.mk.inj q10
                      obtain ⟨e11, q12⟩ := Prod.mk.inj q11
                      obtain ⟨e12, q13⟩ := Prod.mk.inj q12
                      subst e0
                      subst e1
                      subst e2
                      subst e3
                      subst e4
                      subst e5
                      subst e6
                      subst e7
                      subst e8
                      subst e9
                      subst e10
                      subst e11
                      subst e12
                      subst q13
                      exact gRv hx hb hr hlocks hP hS dX5_readsItem_301
                    · have hf := pit hf c_56
                      refine lv_iload_n hx hb dX5_readsItem_288 rfl (lv_at hl 4 rfl) ?_
                      refine lv_iconst (v := (1 : Int32)) hx hb dX5_readsItem_289 (by decide) ?_
                      refine lv_icmp_le (tgt := 297) hx hb dX5_readsItem_290 (by decide) (fun c_57 => ?_) (fun c_57 => ?_)
                      · have hf := pit hf c_57
                        refine lv_iconst (v := (0 : Int32)) hx hb dX5_readsItem_297 (by decide) ?_
                        refine va_put (D := (dC, dI)) (ci := 5) (v := .int (0 : Int32)) (ty := .boolean) (C := RX5) (T := TX5) (N := 29) hx hb hts uX5_readsItem_X5 tyX5 tyX5_ok nmX5 hown hK hP hD hS 0 rfl rfl 19 (by decide) (hts _ mX5_readsItem_2) (fun _ h9 => h9) rfl (by decide +kernel) rfl rfl (Nat.le_of_ble_eq_true rfl) dX5_readsItem_298 (fun H locs hP hD hS => ?_)
                        have hP : va_P (dC, dI) vwCl [(a_o, .inr (5, [.int o_thrown, .long o_trace, .ref a_o_text, .int o_typed, .int o_next_11, .int o_token_12, .int o_place_13, .int o_value_14, .int o_fault_15, .ref a_o_need, .ref a_o_made, .ref a_o_skillTold, .ref a_o_placeTold, .ref a_o_skips, .ref a_o_wheelTold, .int o_trades, .int o_people, .int o_draftTrades, .int o_draftPeople, .int (0 : Int32), .ref a_o_tunes, .ref a_o_s, .ref a_o_spare, .ref a_o_kept, .ref a_o_isKept, .ref a_o_makes, .ref a_o_works, .ref a_o_order, .int o_falling])), (a_o_text, .inl (cI, 400, .inl o_text)), (a_o_need, .inl (cI, 12, .inl o_need)), (a_o_made, .inl (cI, 12, .inl o_made)), (a_o_skillTold, .inl (cI, 72, .inl o_skillTold)), (a_o_placeTold, .inl (cI, 12, .inl (upd o_placeTold ((6 : Int32) + r_4).toNatClampNeg r_10))), (a_o_skips, .inl (cI, 12, .inl o_skips)), (a_o_wheelTold, .inl (cI, 12, .inl o_wheelTold))] H := hP
                        have hD : va_D A [(a_o, .inr (5, [.int o_thrown, .long o_trace, .ref a_o_text, .int o_typed, .int o_next_11, .int o_token_12, .int o_place_13, .int o_value_14, .int o_fault_15, .ref a_o_need, .ref a_o_made, .ref a_o_skillTold, .ref a_o_placeTold, .ref a_o_skips, .ref a_o_wheelTold, .int o_trades, .int o_people, .int o_draftTrades, .int o_draftPeople, .int (0 : Int32), .ref a_o_tunes, .ref a_o_s, .ref a_o_spare, .ref a_o_kept, .ref a_o_isKept, .ref a_o_makes, .ref a_o_works, .ref a_o_order, .int o_falling])), (a_o_text, .inl (cI, 400, .inl o_text)), (a_o_need, .inl (cI, 12, .inl o_need)), (a_o_made, .inl (cI, 12, .inl o_made)), (a_o_skillTold, .inl (cI, 72, .inl o_skillTold)), (a_o_placeTold, .inl (cI, 12, .inl (upd o_placeTold ((6 : Int32) + r_4).toNatClampNeg r_10))), (a_o_skips, .inl (cI, 12, .inl o_skips)), (a_o_wheelTold, .inl (cI, 12, .inl o_wheelTold))] := hD
                        have q0 := Option.some.inj hf
                        obtain ⟨e0, q1⟩ := Prod.mk.inj q0
                        obtain ⟨e1, q2⟩ := Prod.mk.inj q1
                        obtain ⟨e2, q3⟩ := Prod.mk.inj q2
                        obtain ⟨e3, q4⟩ := Prod.mk.inj q3
                        obtain ⟨e4, q5⟩ := Prod.mk.inj q4
                        obtain ⟨e5, q6⟩ := Prod.mk.inj q5
                        obtain ⟨e6, q7⟩ := Prod.mk.inj q6
                        obtain ⟨e7, q8⟩ := Prod.mk.inj q7
                        obtain ⟨e8, q9⟩ := Prod.mk.inj q8
                        obtain ⟨e9, q10⟩ := Prod.mk.inj q9
                        obtain ⟨e10, q11⟩ := Prod.mk.inj q10
                        obtain ⟨e11, q12⟩ := Prod.mk.inj q11
                        obtain ⟨e12, q13⟩ := Prod.mk.inj q12
                        subst e0
                        subst e1
                        subst e2
                        subst e3
                        subst e4
                        subst e5
                        subst e6
                        subst e7
                        subst e8
                        subst e9
                        subst e10
                        subst e11
                        subst e12
                        subst q13
                        exact gRv hx hb hr hlocks hP hS dX5_readsItem_301
                      · have hf := pif hf c_57
                        refine lv_iconst (v := (1 : Int32)) hx hb dX5_readsItem_293 (by decide) ?_
                        refine lv_goto (tgt := 298) hx hb dX5_readsItem_294 (by decide) ?_
                        refine va_put (D := (dC, dI)) (ci := 5) (v := .int (1 : Int32)) (ty := .boolean) (C := RX5) (T := TX5) (N := 29) hx hb hts uX5_readsItem_X5 tyX5 tyX5_ok nmX5 hown hK hP hD hS 0 rfl rfl 19 (by decide) (hts _ mX5_readsItem_2) (fun _ h9 => h9) rfl (by decide +kernel) rfl rfl (Nat.le_of_ble_eq_true rfl) dX5_readsItem_298 (fun H locs hP hD hS => ?_)
                        have hP : va_P (dC, dI) vwCl [(a_o, .inr (5, [.int o_thrown, .long o_trace, .ref a_o_text, .int o_typed, .int o_next_11, .int o_token_12, .int o_place_13, .int o_value_14, .int o_fault_15, .ref a_o_need, .ref a_o_made, .ref a_o_skillTold, .ref a_o_placeTold, .ref a_o_skips, .ref a_o_wheelTold, .int o_trades, .int o_people, .int o_draftTrades, .int o_draftPeople, .int (1 : Int32), .ref a_o_tunes, .ref a_o_s, .ref a_o_spare, .ref a_o_kept, .ref a_o_isKept, .ref a_o_makes, .ref a_o_works, .ref a_o_order, .int o_falling])), (a_o_text, .inl (cI, 400, .inl o_text)), (a_o_need, .inl (cI, 12, .inl o_need)), (a_o_made, .inl (cI, 12, .inl o_made)), (a_o_skillTold, .inl (cI, 72, .inl o_skillTold)), (a_o_placeTold, .inl (cI, 12, .inl (upd o_placeTold ((6 : Int32) + r_4).toNatClampNeg r_10))), (a_o_skips, .inl (cI, 12, .inl o_skips)), (a_o_wheelTold, .inl (cI, 12, .inl o_wheelTold))] H := hP
                        have hD : va_D A [(a_o, .inr (5, [.int o_thrown, .long o_trace, .ref a_o_text, .int o_typed, .int o_next_11, .int o_token_12, .int o_place_13, .int o_value_14, .int o_fault_15, .ref a_o_need, .ref a_o_made, .ref a_o_skillTold, .ref a_o_placeTold, .ref a_o_skips, .ref a_o_wheelTold, .int o_trades, .int o_people, .int o_draftTrades, .int o_draftPeople, .int (1 : Int32), .ref a_o_tunes, .ref a_o_s, .ref a_o_spare, .ref a_o_kept, .ref a_o_isKept, .ref a_o_makes, .ref a_o_works, .ref a_o_order, .int o_falling])), (a_o_text, .inl (cI, 400, .inl o_text)), (a_o_need, .inl (cI, 12, .inl o_need)), (a_o_made, .inl (cI, 12, .inl o_made)), (a_o_skillTold, .inl (cI, 72, .inl o_skillTold)), (a_o_placeTold, .inl (cI, 12, .inl (upd o_placeTold ((6 : Int32) + r_4).toNatClampNeg r_10))), (a_o_skips, .inl (cI, 12, .inl o_skips)), (a_o_wheelTold, .inl (cI, 12, .inl o_wheelTold))] := hD
                        have q0 := Option.some.inj hf
                        obtain ⟨e0, q1⟩ := Prod.mk.inj q0
                        obtain ⟨e1, q2⟩ := Prod.mk.inj q1
                        obtain ⟨e2, q3⟩ := Prod.mk.inj q2
                        obtain ⟨e3, q4⟩ := Prod.mk.inj q3
                        obtain ⟨e4, q5⟩ := Prod.mk.inj q4
                        obtain ⟨e5, q6⟩ := Prod.mk.inj q5
                        obtain ⟨e6, q7⟩ := Prod.mk.inj q6
                        obtain ⟨e7, q8⟩ := Prod.mk.inj q7
                        obtain ⟨e8, q9⟩ := Prod.mk.inj q8
                        obtain ⟨e9, q10⟩ := Prod.mk.inj q9
                        obtain ⟨e10, q11⟩ := Prod.mk.inj q10
                        obtain ⟨e11, q12⟩ := Prod.mk.inj q11
                        obtain ⟨e12, q13⟩ := Prod.mk.inj q12
                        subst e0
                        subst e1
                        subst e2
                        subst e3
                        subst e4
                        subst e5
                        subst e6
                        subst e7
                        subst e8
                        subst e9
                        subst e10
                        subst e11
                        subst e12
                        subst q13
                        exact gRv hx hb hr hlocks hP hS dX5_readsItem_301
                · have hf := pit hf c_50
                  refine lv_aload_n hx hb dX5_readsItem_245 rfl (lv_at hl 3 rfl) ?_
                  refine va_get (D := (dC, dI)) (ci := 5) (v := .ref a_o_skips) (C := RX5) (T := TX5) (N := 29) hx hb hts uX5_readsItem_X5 hown hK hP 0 rfl rfl 13 (by decide) (hts _ mX5_readsItem_4) (fun _ h9 => h9) rfl dX5_readsItem_246 ?_
                  refine lv_bipush (v := (6 : Int32)) hx hb dX5_readsItem_249 (by decide) ?_
                  refine lv_iload_n hx hb dX5_readsItem_251 rfl (lv_at hl 2 rfl) ?_
                  refine lv_iadd hx hb dX5_readsItem_252 ?_
                  refine lv_dup2_11 hx hb dX5_readsItem_253 rfl rfl ?_
                  obtain ⟨h_58, hf⟩ := pgd hf
                  refine va_iald hx hb hK hP 6 1 rfl rfl h_58 dX5_readsItem_254 ?_
                  refine lv_iconst (v := (1 : Int32)) hx hb dX5_readsItem_255 (by decide) ?_
                  refine lv_iload_n hx hb dX5_readsItem_256 rfl (lv_at hl 1 rfl) ?_
                  refine lv_ishl hx hb dX5_readsItem_257 ?_
                  refine lv_ior hx hb dX5_readsItem_258 ?_
                  obtain ⟨h_59, hf⟩ := pgd hf
                  refine va_iast hx hb hK hP hD hS 6 1 rfl rfl h_59 dX5_readsItem_259 (fun H locs hP hD hS => ?_)
                  have hP : va_P (dC, dI) vwCl [(a_o, .inr (5, [.int o_thrown, .long o_trace, .ref a_o_text, .int o_typed, .int o_next_11, .int o_token_12, .int o_place_13, .int o_value_14, .int o_fault_15, .ref a_o_need, .ref a_o_made, .ref a_o_skillTold, .ref a_o_placeTold, .ref a_o_skips, .ref a_o_wheelTold, .int o_trades, .int o_people, .int o_draftTrades, .int o_draftPeople, .int o_isShut, .ref a_o_tunes, .ref a_o_s, .ref a_o_spare, .ref a_o_kept, .ref a_o_isKept, .ref a_o_makes, .ref a_o_works, .ref a_o_order, .int o_falling])), (a_o_text, .inl (cI, 400, .inl o_text)), (a_o_need, .inl (cI, 12, .inl o_need)), (a_o_made, .inl (cI, 12, .inl o_made)), (a_o_skillTold, .inl (cI, 72, .inl o_skillTold)), (a_o_placeTold, .inl (cI, 12, .inl o_placeTold)), (a_o_skips, .inl (cI, 12, .inl (upd o_skips ((6 : Int32) + r_4).toNatClampNeg ((o_skips ((6 : Int32) + r_4).toNatClampNeg) ||| ((1 : Int32) <<< (r_10 &&& 31)))))), (a_o_wheelTold, .inl (cI, 12, .inl o_wheelTold))] H := hP
                  have hD : va_D A [(a_o, .inr (5, [.int o_thrown, .long o_trace, .ref a_o_text, .int o_typed, .int o_next_11, .int o_token_12, .int o_place_13, .int o_value_14, .int o_fault_15, .ref a_o_need, .ref a_o_made, .ref a_o_skillTold, .ref a_o_placeTold, .ref a_o_skips, .ref a_o_wheelTold, .int o_trades, .int o_people, .int o_draftTrades, .int o_draftPeople, .int o_isShut, .ref a_o_tunes, .ref a_o_s, .ref a_o_spare, .ref a_o_kept, .ref a_o_isKept, .ref a_o_makes, .ref a_o_works, .ref a_o_order, .int o_falling])), (a_o_text, .inl (cI, 400, .inl o_text)), (a_o_need, .inl (cI, 12, .inl o_need)), (a_o_made, .inl (cI, 12, .inl o_made)), (a_o_skillTold, .inl (cI, 72, .inl o_skillTold)), (a_o_placeTold, .inl (cI, 12, .inl o_placeTold)), (a_o_skips, .inl (cI, 12, .inl (upd o_skips ((6 : Int32) + r_4).toNatClampNeg ((o_skips ((6 : Int32) + r_4).toNatClampNeg) ||| ((1 : Int32) <<< (r_10 &&& 31)))))), (a_o_wheelTold, .inl (cI, 12, .inl o_wheelTold))] := hD
                  refine lv_goto (tgt := 280) hx hb dX5_readsItem_260 (by decide) ?_
                  refine lv_aload_n hx hb dX5_readsItem_280 rfl (lv_at hl 3 rfl) ?_
                  refine lv_aload_n hx hb dX5_readsItem_281 rfl (lv_at hl 3 rfl) ?_
                  refine va_get (D := (dC, dI)) (ci := 5) (v := .int o_isShut) (C := RX5) (T := TX5) (N := 29) hx hb hts uX5_readsItem_X5 hown hK hP 0 rfl rfl 19 (by decide) (hts _ mX5_readsItem_2) (fun _ h9 => h9) rfl dX5_readsItem_282 ?_
                  refine lv_if_ne (tgt := 293) hx hb dX5_readsItem_285 (by decide) (fun c_60 => ?_) (fun c_60 => ?_)
                  · have hf := pif hf c_60
                    refine lv_iconst (v := (1 : Int32)) hx hb dX5_readsItem_293 (by decide) ?_
                    refine lv_goto (tgt := 298) hx hb dX5_readsItem_294 (by decide) ?_
                    refine va_put (D := (dC, dI)) (ci := 5) (v := .int (1 : Int32)) (ty := .boolean) (C := RX5) (T := TX5) (N := 29) hx hb hts uX5_readsItem_X5 tyX5 tyX5_ok nmX5 hown hK hP hD hS 0 rfl rfl 19 (by decide) (hts _ mX5_readsItem_2) (fun _ h9 => h9) rfl (by decide +kernel) rfl rfl (Nat.le_of_ble_eq_true rfl) dX5_readsItem_298 (fun H locs hP hD hS => ?_)
                    have hP : va_P (dC, dI) vwCl [(a_o, .inr (5, [.int o_thrown, .long o_trace, .ref a_o_text, .int o_typed, .int o_next_11, .int o_token_12, .int o_place_13, .int o_value_14, .int o_fault_15, .ref a_o_need, .ref a_o_made, .ref a_o_skillTold, .ref a_o_placeTold, .ref a_o_skips, .ref a_o_wheelTold, .int o_trades, .int o_people, .int o_draftTrades, .int o_draftPeople, .int (1 : Int32), .ref a_o_tunes, .ref a_o_s, .ref a_o_spare, .ref a_o_kept, .ref a_o_isKept, .ref a_o_makes, .ref a_o_works, .ref a_o_order, .int o_falling])), (a_o_text, .inl (cI, 400, .inl o_text)), (a_o_need, .inl (cI, 12, .inl o_need)), (a_o_made, .inl (cI, 12, .inl o_made)), (a_o_skillTold, .inl (cI, 72, .inl o_skillTold)), (a_o_placeTold, .inl (cI, 12, .inl o_placeTold)), (a_o_skips, .inl (cI, 12, .inl (upd o_skips ((6 : Int32) + r_4).toNatClampNeg ((o_skips ((6 : Int32) + r_4).toNatClampNeg) ||| ((1 : Int32) <<< (r_10 &&& 31)))))), (a_o_wheelTold, .inl (cI, 12, .inl o_wheelTold))] H := hP
                    have hD : va_D A [(a_o, .inr (5, [.int o_thrown, .long o_trace, .ref a_o_text, .int o_typed, .int o_next_11, .int o_token_12, .int o_place_13, .int o_value_14, .int o_fault_15, .ref a_o_need, .ref a_o_made, .ref a_o_skillTold, .ref a_o_placeTold, .ref a_o_skips, .ref a_o_wheelTold, .int o_trades, .int o_people, .int o_draftTrades, .int o_draftPeople, .int (1 : Int32), .ref a_o_tunes, .ref a_o_s, .ref a_o_spare, .ref a_o_kept, .ref a_o_isKept, .ref a_o_makes, .ref a_o_works, .ref a_o_order, .int o_falling])), (a_o_text, .inl (cI, 400, .inl o_text)), (a_o_need, .inl (cI, 12, .inl o_need)), (a_o_made, .inl (cI, 12, .inl o_made)), (a_o_skillTold, .inl (cI, 72, .inl o_skillTold)), (a_o_placeTold, .inl (cI, 12, .inl o_placeTold)), (a_o_skips, .inl (cI, 12, .inl (upd o_skips ((6 : Int32) + r_4).toNatClampNeg ((o_skips ((6 : Int32) + r_4).toNatClampNeg) ||| ((1 : Int32) <<< (r_10 &&& 31)))))), (a_o_wheelTold, .inl (cI, 12, .inl o_wheelTold))] := hD
                    have q0 := Option.some.inj hf
                    obtain ⟨e0, q1⟩ := Prod.mk.inj q0
                    obtain ⟨e1, q2⟩ := Prod.mk.inj q1
                    obtain ⟨e2, q3⟩ := Prod.mk.inj q2
                    obtain ⟨e3, q4⟩ := Prod.mk.inj q3
                    obtain ⟨e4, q5⟩ := Prod.mk.inj q4
                    obtain ⟨e5, q6⟩ := Prod.mk.inj q5
                    obtain ⟨e6, q7⟩ := Prod.mk.inj q6
                    obtain ⟨e7, q8⟩ := Prod.mk.inj q7
                    obtain ⟨e8, q9⟩ := Prod.mk.inj q8
                    obtain ⟨e9, q10⟩ := Prod.mk.inj q9
                    obtain ⟨e10, q11⟩ := Prod.mk.inj q10
                    obtain ⟨e11, q12⟩ := Prod.mk.inj q11
                    obtain ⟨e12, q13⟩ := Prod.mk.inj q12
                    subst e0
                    subst e1
                    subst e2
                    subst e3
                    subst e4
                    subst e5
                    subst e6
                    subst e7
                    subst e8
                    subst e9
                    subst e10
                    subst e11
                    subst e12
                    subst q13
                    exact gRv hx hb hr hlocks hP hS dX5_readsItem_301
                  · have hf := pit hf c_60
                    refine lv_iload_n hx hb dX5_readsItem_288 rfl (lv_at hl 4 rfl) ?_
                    refine lv_iconst (v := (1 : Int32)) hx hb dX5_readsItem_289 (by decide) ?_
                    refine lv_icmp_le (tgt := 297) hx hb dX5_readsItem_290 (by decide) (fun c_61 => ?_) (fun c_61 => ?_)
                    · have hf := pit hf c_61
                      refine lv_iconst (v := (0 : Int32)) hx hb dX5_readsItem_297 (by decide) ?_
                      refine va_put (D := (dC, dI)) (ci := 5) (v := .int (0 : Int32)) (ty := .boolean) (C := RX5) (T := TX5) (N := 29) hx hb hts uX5_readsItem_X5 tyX5 tyX5_ok nmX5 hown hK hP hD hS 0 rfl rfl 19 (by decide) (hts _ mX5_readsItem_2) (fun _ h9 => h9) rfl (by decide +kernel) rfl rfl (Nat.le_of_ble_eq_true rfl) dX5_readsItem_298 (fun H locs hP hD hS => ?_)
                      have hP : va_P (dC, dI) vwCl [(a_o, .inr (5, [.int o_thrown, .long o_trace, .ref a_o_text, .int o_typed, .int o_next_11, .int o_token_12, .int o_place_13, .int o_value_14, .int o_fault_15, .ref a_o_need, .ref a_o_made, .ref a_o_skillTold, .ref a_o_placeTold, .ref a_o_skips, .ref a_o_wheelTold, .int o_trades, .int o_people, .int o_draftTrades, .int o_draftPeople, .int (0 : Int32), .ref a_o_tunes, .ref a_o_s, .ref a_o_spare, .ref a_o_kept, .ref a_o_isKept, .ref a_o_makes, .ref a_o_works, .ref a_o_order, .int o_falling])), (a_o_text, .inl (cI, 400, .inl o_text)), (a_o_need, .inl (cI, 12, .inl o_need)), (a_o_made, .inl (cI, 12, .inl o_made)), (a_o_skillTold, .inl (cI, 72, .inl o_skillTold)), (a_o_placeTold, .inl (cI, 12, .inl o_placeTold)), (a_o_skips, .inl (cI, 12, .inl (upd o_skips ((6 : Int32) + r_4).toNatClampNeg ((o_skips ((6 : Int32) + r_4).toNatClampNeg) ||| ((1 : Int32) <<< (r_10 &&& 31)))))), (a_o_wheelTold, .inl (cI, 12, .inl o_wheelTold))] H := hP
                      have hD : va_D A [(a_o, .inr (5, [.int o_thrown, .long o_trace, .ref a_o_text, .int o_typed, .int o_next_11, .int o_token_12, .int o_place_13, .int o_value_14, .int o_fault_15, .ref a_o_need, .ref a_o_made, .ref a_o_skillTold, .ref a_o_placeTold, .ref a_o_skips, .ref a_o_wheelTold, .int o_trades, .int o_people, .int o_draftTrades, .int o_draftPeople, .int (0 : Int32), .ref a_o_tunes, .ref a_o_s, .ref a_o_spare, .ref a_o_kept, .ref a_o_isKept, .ref a_o_makes, .ref a_o_works, .ref a_o_order, .int o_falling])), (a_o_text, .inl (cI, 400, .inl o_text)), (a_o_need, .inl (cI, 12, .inl o_need)), (a_o_made, .inl (cI, 12, .inl o_made)), (a_o_skillTold, .inl (cI, 72, .inl o_skillTold)), (a_o_placeTold, .inl (cI, 12, .inl o_placeTold)), (a_o_skips, .inl (cI, 12, .inl (upd o_skips ((6 : Int32) + r_4).toNatClampNeg ((o_skips ((6 : Int32) + r_4).toNatClampNeg) ||| ((1 : Int32) <<< (r_10 &&& 31)))))), (a_o_wheelTold, .inl (cI, 12, .inl o_wheelTold))] := hD
                      have q0 := Option.some.inj hf
                      obtain ⟨e0, q1⟩ := Prod.mk.inj q0
                      obtain ⟨e1, q2⟩ := Prod.mk.inj q1
                      obtain ⟨e2, q3⟩ := Prod.mk.inj q2
                      obtain ⟨e3, q4⟩ := Prod.mk.inj q3
                      obtain ⟨e4, q5⟩ := Prod.mk.inj q4
                      obtain ⟨e5, q6⟩ := Prod.mk.inj q5
                      obtain ⟨e6, q7⟩ := Prod.mk.inj q6
                      obtain ⟨e7, q8⟩ := Prod.mk.inj q7
                      obtain ⟨e8, q9⟩ := Prod.mk.inj q8
                      obtain ⟨e9, q10⟩ := Prod.mk.inj q9
                      obtain ⟨e10, q11⟩ := Prod.mk.inj q10
                      obtain ⟨e11, q12⟩ := Prod.mk.inj q11
                      obtain ⟨e12, q13⟩ := Prod.mk.inj q12
                      subst e0
                      subst e1
                      subst e2
                      subst e3
                      subst e4
                      subst e5
                      subst e6
                      subst e7
                      subst e8
                      subst e9
                      subst e10
                      subst e11
                      subst e12
                      subst q13
                      exact gRv hx hb hr hlocks hP hS dX5_readsItem_301
                    · have hf := pif hf c_61
                      refine lv_iconst (v := (1 : Int32)) hx hb dX5_readsItem_293 (by decide) ?_
                      refine lv_goto (tgt := 298) hx hb dX5_readsItem_294 (by decide) ?_
                      refine va_put (D := (dC, dI)) (ci := 5) (v := .int (1 : Int32)) (ty := .boolean) (C := RX5) (T := TX5) (N := 29) hx hb hts uX5_readsItem_X5 tyX5 tyX5_ok nmX5 hown hK hP hD hS 0 rfl rfl 19 (by decide) (hts _ mX5_readsItem_2) (fun _ h9 => h9) rfl (by decide +kernel) rfl rfl (Nat.le_of_ble_eq_true rfl) dX5_readsItem_298 (fun H locs hP hD hS => ?_)
                      have hP : va_P (dC, dI) vwCl [(a_o, .inr (5, [.int o_thrown, .long o_trace, .ref a_o_text, .int o_typed, .int o_next_11, .int o_token_12, .int o_place_13, .int o_value_14, .int o_fault_15, .ref a_o_need, .ref a_o_made, .ref a_o_skillTold, .ref a_o_placeTold, .ref a_o_skips, .ref a_o_wheelTold, .int o_trades, .int o_people, .int o_draftTrades, .int o_draftPeople, .int (1 : Int32), .ref a_o_tunes, .ref a_o_s, .ref a_o_spare, .ref a_o_kept, .ref a_o_isKept, .ref a_o_makes, .ref a_o_works, .ref a_o_order, .int o_falling])), (a_o_text, .inl (cI, 400, .inl o_text)), (a_o_need, .inl (cI, 12, .inl o_need)), (a_o_made, .inl (cI, 12, .inl o_made)), (a_o_skillTold, .inl (cI, 72, .inl o_skillTold)), (a_o_placeTold, .inl (cI, 12, .inl o_placeTold)), (a_o_skips, .inl (cI, 12, .inl (upd o_skips ((6 : Int32) + r_4).toNatClampNeg ((o_skips ((6 : Int32) + r_4).toNatClampNeg) ||| ((1 : Int32) <<< (r_10 &&& 31)))))), (a_o_wheelTold, .inl (cI, 12, .inl o_wheelTold))] H := hP
                      have hD : va_D A [(a_o, .inr (5, [.int o_thrown, .long o_trace, .ref a_o_text, .int o_typed, .int o_next_11, .int o_token_12, .int o_place_13, .int o_value_14, .int o_fault_15, .ref a_o_need, .ref a_o_made, .ref a_o_skillTold, .ref a_o_placeTold, .ref a_o_skips, .ref a_o_wheelTold, .int o_trades, .int o_people, .int o_draftTrades, .int o_draftPeople, .int (1 : Int32), .ref a_o_tunes, .ref a_o_s, .ref a_o_spare, .ref a_o_kept, .ref a_o_isKept, .ref a_o_makes, .ref a_o_works, .ref a_o_order, .int o_falling])), (a_o_text, .inl (cI, 400, .inl o_text)), (a_o_need, .inl (cI, 12, .inl o_need)), (a_o_made, .inl (cI, 12, .inl o_made)), (a_o_skillTold, .inl (cI, 72, .inl o_skillTold)), (a_o_placeTold, .inl (cI, 12, .inl o_placeTold)), (a_o_skips, .inl (cI, 12, .inl (upd o_skips ((6 : Int32) + r_4).toNatClampNeg ((o_skips ((6 : Int32) + r_4).toNatClampNeg) ||| ((1 : Int32) <<< (r_10 &&& 31)))))), (a_o_wheelTold, .inl (cI, 12, .inl o_wheelTold))] := hD
                      have q0 := Option.some.inj hf
                      obtain ⟨e0, q1⟩ := Prod.mk.inj q0
                      obtain ⟨e1, q2⟩ := Prod.mk.inj q1
                      obtain ⟨e2, q3⟩ := Prod.mk.inj q2
                      obtain ⟨e3, q4⟩ := Prod.mk.inj q3
                      obtain ⟨e4, q5⟩ := Prod.mk.inj q4
                      obtain ⟨e5, q6⟩ := Prod.mk.inj q5
                      obtain ⟨e6, q7⟩ := Prod.mk.inj q6
                      obtain ⟨e7, q8⟩ := Prod.mk.inj q7
                      obtain ⟨e8, q9⟩ := Prod.mk.inj q8
                      obtain ⟨e9, q10⟩ := Prod.mk.inj q9
                      obtain ⟨e10, q11⟩ := Prod.mk.inj q10
                      obtain ⟨e11, q12⟩ := Prod.mk.inj q11
                      obtain ⟨e12, q13⟩ := Prod.mk.inj q12
                      subst e0
                      subst e1
                      subst e2
                      subst e3
                      subst e4
                      subst e5
                      subst e6
                      subst e7
                      subst e8
                      subst e9
                      subst e10
                      subst e11
                      subst e12
                      subst q13
                      exact gRv hx hb hr hlocks hP hS dX5_readsItem_301
            · have hf := pit hf c_40
              refine lv_aload_n hx hb dX5_readsItem_214 rfl (lv_at hl 3 rfl) ?_
              refine va_get (D := (dC, dI)) (ci := 5) (v := .ref a_o_skillTold) (C := RX5) (T := TX5) (N := 29) hx hb hts uX5_readsItem_X5 hown hK hP 0 rfl rfl 11 (by decide) (hts _ mX5_readsItem_5) (fun _ h9 => h9) rfl dX5_readsItem_215 ?_
              refine lv_bipush (v := (36 : Int32)) hx hb dX5_readsItem_218 (by decide) ?_
              refine lv_bipush (v := (6 : Int32)) hx hb dX5_readsItem_220 (by decide) ?_
              refine lv_iload_n hx hb dX5_readsItem_222 rfl (lv_at hl 2 rfl) ?_
              refine lv_imul hx hb dX5_readsItem_223 ?_
              refine lv_iadd hx hb dX5_readsItem_224 ?_
              refine lv_iload_n hx hb dX5_readsItem_225 rfl (lv_at hl 1 rfl) ?_
              refine lv_iadd hx hb dX5_readsItem_226 ?_
              refine lv_iload hx hb dX5_readsItem_227 (lv_at hl 0 rfl) ?_
              obtain ⟨h_62, hf⟩ := pgd hf
              refine va_iast hx hb hK hP hD hS 4 1 rfl rfl h_62 dX5_readsItem_229 (fun H locs hP hD hS => ?_)
              have hP : va_P (dC, dI) vwCl [(a_o, .inr (5, [.int o_thrown, .long o_trace, .ref a_o_text, .int o_typed, .int o_next_11, .int o_token_12, .int o_place_13, .int o_value_14, .int o_fault_15, .ref a_o_need, .ref a_o_made, .ref a_o_skillTold, .ref a_o_placeTold, .ref a_o_skips, .ref a_o_wheelTold, .int o_trades, .int o_people, .int o_draftTrades, .int o_draftPeople, .int o_isShut, .ref a_o_tunes, .ref a_o_s, .ref a_o_spare, .ref a_o_kept, .ref a_o_isKept, .ref a_o_makes, .ref a_o_works, .ref a_o_order, .int o_falling])), (a_o_text, .inl (cI, 400, .inl o_text)), (a_o_need, .inl (cI, 12, .inl o_need)), (a_o_made, .inl (cI, 12, .inl o_made)), (a_o_skillTold, .inl (cI, 72, .inl (upd o_skillTold (((36 : Int32) + ((6 : Int32) * r_4)) + r_10).toNatClampNeg (0 : Int32)))), (a_o_placeTold, .inl (cI, 12, .inl o_placeTold)), (a_o_skips, .inl (cI, 12, .inl o_skips)), (a_o_wheelTold, .inl (cI, 12, .inl o_wheelTold))] H := hP
              have hD : va_D A [(a_o, .inr (5, [.int o_thrown, .long o_trace, .ref a_o_text, .int o_typed, .int o_next_11, .int o_token_12, .int o_place_13, .int o_value_14, .int o_fault_15, .ref a_o_need, .ref a_o_made, .ref a_o_skillTold, .ref a_o_placeTold, .ref a_o_skips, .ref a_o_wheelTold, .int o_trades, .int o_people, .int o_draftTrades, .int o_draftPeople, .int o_isShut, .ref a_o_tunes, .ref a_o_s, .ref a_o_spare, .ref a_o_kept, .ref a_o_isKept, .ref a_o_makes, .ref a_o_works, .ref a_o_order, .int o_falling])), (a_o_text, .inl (cI, 400, .inl o_text)), (a_o_need, .inl (cI, 12, .inl o_need)), (a_o_made, .inl (cI, 12, .inl o_made)), (a_o_skillTold, .inl (cI, 72, .inl (upd o_skillTold (((36 : Int32) + ((6 : Int32) * r_4)) + r_10).toNatClampNeg (0 : Int32)))), (a_o_placeTold, .inl (cI, 12, .inl o_placeTold)), (a_o_skips, .inl (cI, 12, .inl o_skips)), (a_o_wheelTold, .inl (cI, 12, .inl o_wheelTold))] := hD
              refine lv_goto (tgt := 280) hx hb dX5_readsItem_230 (by decide) ?_
              refine lv_aload_n hx hb dX5_readsItem_280 rfl (lv_at hl 3 rfl) ?_
              refine lv_aload_n hx hb dX5_readsItem_281 rfl (lv_at hl 3 rfl) ?_
              refine va_get (D := (dC, dI)) (ci := 5) (v := .int o_isShut) (C := RX5) (T := TX5) (N := 29) hx hb hts uX5_readsItem_X5 hown hK hP 0 rfl rfl 19 (by decide) (hts _ mX5_readsItem_2) (fun _ h9 => h9) rfl dX5_readsItem_282 ?_
              refine lv_if_ne (tgt := 293) hx hb dX5_readsItem_285 (by decide) (fun c_63 => ?_) (fun c_63 => ?_)
              · have hf := pif hf c_63
                refine lv_iconst (v := (1 : Int32)) hx hb dX5_readsItem_293 (by decide) ?_
                refine lv_goto (tgt := 298) hx hb dX5_readsItem_294 (by decide) ?_
                refine va_put (D := (dC, dI)) (ci := 5) (v := .int (1 : Int32)) (ty := .boolean) (C := RX5) (T := TX5) (N := 29) hx hb hts uX5_readsItem_X5 tyX5 tyX5_ok nmX5 hown hK hP hD hS 0 rfl rfl 19 (by decide) (hts _ mX5_readsItem_2) (fun _ h9 => h9) rfl (by decide +kernel) rfl rfl (Nat.le_of_ble_eq_true rfl) dX5_readsItem_298 (fun H locs hP hD hS => ?_)
                have hP : va_P (dC, dI) vwCl [(a_o, .inr (5, [.int o_thrown, .long o_trace, .ref a_o_text, .int o_typed, .int o_next_11, .int o_token_12, .int o_place_13, .int o_value_14, .int o_fault_15, .ref a_o_need, .ref a_o_made, .ref a_o_skillTold, .ref a_o_placeTold, .ref a_o_skips, .ref a_o_wheelTold, .int o_trades, .int o_people, .int o_draftTrades, .int o_draftPeople, .int (1 : Int32), .ref a_o_tunes, .ref a_o_s, .ref a_o_spare, .ref a_o_kept, .ref a_o_isKept, .ref a_o_makes, .ref a_o_works, .ref a_o_order, .int o_falling])), (a_o_text, .inl (cI, 400, .inl o_text)), (a_o_need, .inl (cI, 12, .inl o_need)), (a_o_made, .inl (cI, 12, .inl o_made)), (a_o_skillTold, .inl (cI, 72, .inl (upd o_skillTold (((36 : Int32) + ((6 : Int32) * r_4)) + r_10).toNatClampNeg (0 : Int32)))), (a_o_placeTold, .inl (cI, 12, .inl o_placeTold)), (a_o_skips, .inl (cI, 12, .inl o_skips)), (a_o_wheelTold, .inl (cI, 12, .inl o_wheelTold))] H := hP
                have hD : va_D A [(a_o, .inr (5, [.int o_thrown, .long o_trace, .ref a_o_text, .int o_typed, .int o_next_11, .int o_token_12, .int o_place_13, .int o_value_14, .int o_fault_15, .ref a_o_need, .ref a_o_made, .ref a_o_skillTold, .ref a_o_placeTold, .ref a_o_skips, .ref a_o_wheelTold, .int o_trades, .int o_people, .int o_draftTrades, .int o_draftPeople, .int (1 : Int32), .ref a_o_tunes, .ref a_o_s, .ref a_o_spare, .ref a_o_kept, .ref a_o_isKept, .ref a_o_makes, .ref a_o_works, .ref a_o_order, .int o_falling])), (a_o_text, .inl (cI, 400, .inl o_text)), (a_o_need, .inl (cI, 12, .inl o_need)), (a_o_made, .inl (cI, 12, .inl o_made)), (a_o_skillTold, .inl (cI, 72, .inl (upd o_skillTold (((36 : Int32) + ((6 : Int32) * r_4)) + r_10).toNatClampNeg (0 : Int32)))), (a_o_placeTold, .inl (cI, 12, .inl o_placeTold)), (a_o_skips, .inl (cI, 12, .inl o_skips)), (a_o_wheelTold, .inl (cI, 12, .inl o_wheelTold))] := hD
                have q0 := Option.some.inj hf
                obtain ⟨e0, q1⟩ := Prod.mk.inj q0
                obtain ⟨e1, q2⟩ := Prod.mk.inj q1
                obtain ⟨e2, q3⟩ := Prod.mk.inj q2
                obtain ⟨e3, q4⟩ := Prod.mk.inj q3
                obtain ⟨e4, q5⟩ := Prod.mk.inj q4
                obtain ⟨e5, q6⟩ := Prod.mk.inj q5
                obtain ⟨e6, q7⟩ := Prod.mk.inj q6
                obtain ⟨e7, q8⟩ := Prod.mk.inj q7
                obtain ⟨e8, q9⟩ := Prod.mk.inj q8
                obtain ⟨e9, q10⟩ := Prod.mk.inj q9
                obtain ⟨e10, q11⟩ := Prod.mk.inj q10
                obtain ⟨e11, q12⟩ := Prod.mk.inj q11
                obtain ⟨e12, q13⟩ := Prod.mk.inj q12
                subst e0
                subst e1
                subst e2
                subst e3
                subst e4
                subst e5
                subst e6
                subst e7
                subst e8
                subst e9
                subst e10
                subst e11
                subst e12
                subst q13
                exact gRv hx hb hr hlocks hP hS dX5_readsItem_301
              · have hf := pit hf c_63
                refine lv_iload_n hx hb dX5_readsItem_288 rfl (lv_at hl 4 rfl) ?_
                refine lv_iconst (v := (1 : Int32)) hx hb dX5_readsItem_289 (by decide) ?_
                refine lv_icmp_le (tgt := 297) hx hb dX5_readsItem_290 (by decide) (fun c_64 => ?_) (fun c_64 => ?_)
                · have hf := pit hf c_64
                  refine lv_iconst (v := (0 : Int32)) hx hb dX5_readsItem_297 (by decide) ?_
                  refine va_put (D := (dC, dI)) (ci := 5) (v := .int (0 : Int32)) (ty := .boolean) (C := RX5) (T := TX5) (N := 29) hx hb hts uX5_readsItem_X5 tyX5 tyX5_ok nmX5 hown hK hP hD hS 0 rfl rfl 19 (by decide) (hts _ mX5_readsItem_2) (fun _ h9 => h9) rfl (by decide +kernel) rfl rfl (Nat.le_of_ble_eq_true rfl) dX5_readsItem_298 (fun H locs hP hD hS => ?_)
                  have hP : va_P (dC, dI) vwCl [(a_o, .inr (5, [.int o_thrown, .long o_trace, .ref a_o_text, .int o_typed, .int o_next_11, .int o_token_12, .int o_place_13, .int o_value_14, .int o_fault_15, .ref a_o_need, .ref a_o_made, .ref a_o_skillTold, .ref a_o_placeTold, .ref a_o_skips, .ref a_o_wheelTold, .int o_trades, .int o_people, .int o_draftTrades, .int o_draftPeople, .int (0 : Int32), .ref a_o_tunes, .ref a_o_s, .ref a_o_spare, .ref a_o_kept, .ref a_o_isKept, .ref a_o_makes, .ref a_o_works, .ref a_o_order, .int o_falling])), (a_o_text, .inl (cI, 400, .inl o_text)), (a_o_need, .inl (cI, 12, .inl o_need)), (a_o_made, .inl (cI, 12, .inl o_made)), (a_o_skillTold, .inl (cI, 72, .inl (upd o_skillTold (((36 : Int32) + ((6 : Int32) * r_4)) + r_10).toNatClampNeg (0 : Int32)))), (a_o_placeTold, .inl (cI, 12, .inl o_placeTold)), (a_o_skips, .inl (cI, 12, .inl o_skips)), (a_o_wheelTold, .inl (cI, 12, .inl o_wheelTold))] H := hP
                  have hD : va_D A [(a_o, .inr (5, [.int o_thrown, .long o_trace, .ref a_o_text, .int o_typed, .int o_next_11, .int o_token_12, .int o_place_13, .int o_value_14, .int o_fault_15, .ref a_o_need, .ref a_o_made, .ref a_o_skillTold, .ref a_o_placeTold, .ref a_o_skips, .ref a_o_wheelTold, .int o_trades, .int o_people, .int o_draftTrades, .int o_draftPeople, .int (0 : Int32), .ref a_o_tunes, .ref a_o_s, .ref a_o_spare, .ref a_o_kept, .ref a_o_isKept, .ref a_o_makes, .ref a_o_works, .ref a_o_order, .int o_falling])), (a_o_text, .inl (cI, 400, .inl o_text)), (a_o_need, .inl (cI, 12, .inl o_need)), (a_o_made, .inl (cI, 12, .inl o_made)), (a_o_skillTold, .inl (cI, 72, .inl (upd o_skillTold (((36 : Int32) + ((6 : Int32) * r_4)) + r_10).toNatClampNeg (0 : Int32)))), (a_o_placeTold, .inl (cI, 12, .inl o_placeTold)), (a_o_skips, .inl (cI, 12, .inl o_skips)), (a_o_wheelTold, .inl (cI, 12, .inl o_wheelTold))] := hD
                  have q0 := Option.some.inj hf
                  obtain ⟨e0, q1⟩ := Prod.mk.inj q0
                  obtain ⟨e1, q2⟩ := Prod.mk.inj q1
                  obtain ⟨e2, q3⟩ := Prod.mk.inj q2
                  obtain ⟨e3, q4⟩ := Prod.mk.inj q3
                  obtain ⟨e4, q5⟩ := Prod.mk.inj q4
                  obtain ⟨e5, q6⟩ := Prod.mk.inj q5
                  obtain ⟨e6, q7⟩ := Prod.mk.inj q6
                  obtain ⟨e7, q8⟩ := Prod.mk.inj q7
                  obtain ⟨e8, q9⟩ := Prod.mk.inj q8
                  obtain ⟨e9, q10⟩ := Prod.mk.inj q9
                  obtain ⟨e10, q11⟩ := Prod.mk.inj q10
                  obtain ⟨e11, q12⟩ := Prod.mk.inj q11
                  obtain ⟨e12, q13⟩ := Prod.mk.inj q12
                  subst e0
                  subst e1
                  subst e2
                  subst e3
                  subst e4
                  subst e5
                  subst e6
                  subst e7
                  subst e8
                  subst e9
                  subst e10
                  subst e11
                  subst e12
                  subst q13
                  exact gRv hx hb hr hlocks hP hS dX5_readsItem_301
                · have hf := pif hf c_64
                  refine lv_iconst (v := (1 : Int32)) hx hb dX5_readsItem_293 (by decide) ?_
                  refine lv_goto (tgt := 298) hx hb dX5_readsItem_294 (by decide) ?_
                  refine va_put (D := (dC, dI)) (ci := 5) (v := .int (1 : Int32)) (ty := .boolean) (C := RX5) (T := TX5) (N := 29) hx hb hts uX5_readsItem_X5 tyX5 tyX5_ok nmX5 hown hK hP hD hS 0 rfl rfl 19 (by decide) (hts _ mX5_readsItem_2) (fun _ h9 => h9) rfl (by decide +kernel) rfl rfl (Nat.le_of_ble_eq_true rfl) dX5_readsItem_298 (fun H locs hP hD hS => ?_)
                  have hP : va_P (dC, dI) vwCl [(a_o, .inr (5, [.int o_thrown, .long o_trace, .ref a_o_text, .int o_typed, .int o_next_11, .int o_token_12, .int o_place_13, .int o_value_14, .int o_fault_15, .ref a_o_need, .ref a_o_made, .ref a_o_skillTold, .ref a_o_placeTold, .ref a_o_skips, .ref a_o_wheelTold, .int o_trades, .int o_people, .int o_draftTrades, .int o_draftPeople, .int (1 : Int32), .ref a_o_tunes, .ref a_o_s, .ref a_o_spare, .ref a_o_kept, .ref a_o_isKept, .ref a_o_makes, .ref a_o_works, .ref a_o_order, .int o_falling])), (a_o_text, .inl (cI, 400, .inl o_text)), (a_o_need, .inl (cI, 12, .inl o_need)), (a_o_made, .inl (cI, 12, .inl o_made)), (a_o_skillTold, .inl (cI, 72, .inl (upd o_skillTold (((36 : Int32) + ((6 : Int32) * r_4)) + r_10).toNatClampNeg (0 : Int32)))), (a_o_placeTold, .inl (cI, 12, .inl o_placeTold)), (a_o_skips, .inl (cI, 12, .inl o_skips)), (a_o_wheelTold, .inl (cI, 12, .inl o_wheelTold))] H := hP
                  have hD : va_D A [(a_o, .inr (5, [.int o_thrown, .long o_trace, .ref a_o_text, .int o_typed, .int o_next_11, .int o_token_12, .int o_place_13, .int o_value_14, .int o_fault_15, .ref a_o_need, .ref a_o_made, .ref a_o_skillTold, .ref a_o_placeTold, .ref a_o_skips, .ref a_o_wheelTold, .int o_trades, .int o_people, .int o_draftTrades, .int o_draftPeople, .int (1 : Int32), .ref a_o_tunes, .ref a_o_s, .ref a_o_spare, .ref a_o_kept, .ref a_o_isKept, .ref a_o_makes, .ref a_o_works, .ref a_o_order, .int o_falling])), (a_o_text, .inl (cI, 400, .inl o_text)), (a_o_need, .inl (cI, 12, .inl o_need)), (a_o_made, .inl (cI, 12, .inl o_made)), (a_o_skillTold, .inl (cI, 72, .inl (upd o_skillTold (((36 : Int32) + ((6 : Int32) * r_4)) + r_10).toNatClampNeg (0 : Int32)))), (a_o_placeTold, .inl (cI, 12, .inl o_placeTold)), (a_o_skips, .inl (cI, 12, .inl o_skips)), (a_o_wheelTold, .inl (cI, 12, .inl o_wheelTold))] := hD
                  have q0 := Option.some.inj hf
                  obtain ⟨e0, q1⟩ := Prod.mk.inj q0
                  obtain ⟨e1, q2⟩ := Prod.mk.inj q1
                  obtain ⟨e2, q3⟩ := Prod.mk.inj q2
                  obtain ⟨e3, q4⟩ := Prod.mk.inj q3
                  obtain ⟨e4, q5⟩ := Prod.mk.inj q4
                  obtain ⟨e5, q6⟩ := Prod.mk.inj q5
                  obtain ⟨e6, q7⟩ := Prod.mk.inj q6
                  obtain ⟨e7, q8⟩ := Prod.mk.inj q7
                  obtain ⟨e8, q9⟩ := Prod.mk.inj q8
                  obtain ⟨e9, q10⟩ := Prod.mk.inj q9
                  obtain ⟨e10, q11⟩ := Prod.mk.inj q10
                  obtain ⟨e11, q12⟩ := Prod.mk.inj q11
                  obtain ⟨e12, q13⟩ := Prod.mk.inj q12
                  subst e0
                  subst e1
                  subst e2
                  subst e3
                  subst e4
                  subst e5
                  subst e6
                  subst e7
                  subst e8
                  subst e9
                  subst e10
                  subst e11
                  subst e12
                  subst q13
                  exact gRv hx hb hr hlocks hP hS dX5_readsItem_301
        · have hf := pit hf c_16
          refine lv_aload_n hx hb dX5_readsItem_189 rfl (lv_at hl 2 rfl) ?_
          refine lv_iconst (v := (0 : Int32)) hx hb dX5_readsItem_190 (by decide) ?_
          refine lv_bipush (v := (9 : Int32)) hx hb dX5_readsItem_191 (by decide) ?_
          obtain ⟨r_65, o_next_66, o_token_67, o_place_68, o_value_69, o_fault_70, hc, hf⟩ := pb6 hf
          refine gCi (va_runV (As := [.int (0 : Int32), .int (9 : Int32)]) (rest := []) hF (kX5_number l dC dI Z cC cI cZ cW a_o a_o_text a_o_need a_o_made a_o_skillTold a_o_placeTold a_o_skips a_o_wheelTold a_o_tunes a_o_s a_o_spare a_o_kept a_o_isKept a_o_makes a_o_works a_o_order _ o_thrown o_trace o_typed o_next_11 o_token_12 o_place_13 o_value_14 o_fault_15 o_trades o_people o_draftTrades o_draftPeople o_isShut o_falling o_text (0 : Int32) (9 : Int32) N r_65 o_next_66 o_token_67 o_place_68 o_value_69 o_fault_70 hc) (cwV 2 hts gX5_readsItem_X5_number rfl rfl rfl (by decide +kernel) ⟨Nat.le_of_ble_eq_true rfl, Nat.le_of_ble_eq_true rfl⟩) (gPV (wc := [(a_o, .inr (5, [.int o_thrown, .long o_trace, .ref a_o_text, .int o_typed, .int o_next_11, .int o_token_12, .int o_place_13, .int o_value_14, .int o_fault_15, .ref a_o_need, .ref a_o_made, .ref a_o_skillTold, .ref a_o_placeTold, .ref a_o_skips, .ref a_o_wheelTold, .int o_trades, .int o_people, .int o_draftTrades, .int o_draftPeople, .int o_isShut, .ref a_o_tunes, .ref a_o_s, .ref a_o_spare, .ref a_o_kept, .ref a_o_isKept, .ref a_o_makes, .ref a_o_works, .ref a_o_order, .int o_falling])), (a_o_text, .inl (cI, 400, .inl o_text))]) hK hN hA hS hP hD [0, 1] rfl rfl (q0 := 0) (ci := 5) rfl rfl rfl) rfl rfl hl.1 rfl (lv_room (Nat.le_of_ble_eq_true rfl)) dX5_readsItem_193 ⟨Nat.zero_le _, Nat.zero_le _⟩) hP hD hS hA [0, 1] rfl rfl rfl (fun H locs hP hD hS => ?_)
          have hP : va_P (dC, dI) vwCl [(a_o, .inr (5, [.int o_thrown, .long o_trace, .ref a_o_text, .int o_typed, .int o_next_66, .int o_token_67, .int o_place_68, .int o_value_69, .int o_fault_70, .ref a_o_need, .ref a_o_made, .ref a_o_skillTold, .ref a_o_placeTold, .ref a_o_skips, .ref a_o_wheelTold, .int o_trades, .int o_people, .int o_draftTrades, .int o_draftPeople, .int o_isShut, .ref a_o_tunes, .ref a_o_s, .ref a_o_spare, .ref a_o_kept, .ref a_o_isKept, .ref a_o_makes, .ref a_o_works, .ref a_o_order, .int o_falling])), (a_o_text, .inl (cI, 400, .inl o_text)), (a_o_need, .inl (cI, 12, .inl o_need)), (a_o_made, .inl (cI, 12, .inl o_made)), (a_o_skillTold, .inl (cI, 72, .inl o_skillTold)), (a_o_placeTold, .inl (cI, 12, .inl o_placeTold)), (a_o_skips, .inl (cI, 12, .inl o_skips)), (a_o_wheelTold, .inl (cI, 12, .inl o_wheelTold))] H := hP
          have hD : va_D A [(a_o, .inr (5, [.int o_thrown, .long o_trace, .ref a_o_text, .int o_typed, .int o_next_66, .int o_token_67, .int o_place_68, .int o_value_69, .int o_fault_70, .ref a_o_need, .ref a_o_made, .ref a_o_skillTold, .ref a_o_placeTold, .ref a_o_skips, .ref a_o_wheelTold, .int o_trades, .int o_people, .int o_draftTrades, .int o_draftPeople, .int o_isShut, .ref a_o_tunes, .ref a_o_s, .ref a_o_spare, .ref a_o_kept, .ref a_o_isKept, .ref a_o_makes, .ref a_o_works, .ref a_o_order, .int o_falling])), (a_o_text, .inl (cI, 400, .inl o_text)), (a_o_need, .inl (cI, 12, .inl o_need)), (a_o_made, .inl (cI, 12, .inl o_made)), (a_o_skillTold, .inl (cI, 72, .inl o_skillTold)), (a_o_placeTold, .inl (cI, 12, .inl o_placeTold)), (a_o_skips, .inl (cI, 12, .inl o_skips)), (a_o_wheelTold, .inl (cI, 12, .inl o_wheelTold))] := hD
          refine lv_goto (tgt := 200) hx hb dX5_readsItem_196 (by decide) ?_
          refine lv_istore (lv' := [(4, .int r_65), (3, .int r_10), (2, .int r_4), (0, .ref a_o), (1, .int i1)]) hx hb dX5_readsItem_200 hl (by decide) rfl (fun ls hl => ?_)
          refine lv_aload_n hx hb dX5_readsItem_202 rfl (lv_at hl 3 rfl) ?_
          obtain ⟨r_71, hc, hf⟩ := pb1 hf
          refine gCi (va_runV (As := []) (rest := []) hF (kX5_isWell l dC dI Z cC cI cZ cW a_o a_o_text a_o_need a_o_made a_o_skillTold a_o_placeTold a_o_skips a_o_wheelTold a_o_tunes a_o_s a_o_spare a_o_kept a_o_isKept a_o_makes a_o_works a_o_order _ o_thrown o_trace o_typed o_next_66 o_token_67 o_place_68 o_value_69 o_fault_70 o_trades o_people o_draftTrades o_draftPeople o_isShut o_falling  N r_71 hc) (cwV 0 hts gX5_readsItem_X5_isWell rfl rfl rfl (by decide +kernel) ⟨Nat.le_of_ble_eq_true rfl, Nat.le_of_ble_eq_true rfl⟩) (gPV (wc := [(a_o, .inr (5, [.int o_thrown, .long o_trace, .ref a_o_text, .int o_typed, .int o_next_66, .int o_token_67, .int o_place_68, .int o_value_69, .int o_fault_70, .ref a_o_need, .ref a_o_made, .ref a_o_skillTold, .ref a_o_placeTold, .ref a_o_skips, .ref a_o_wheelTold, .int o_trades, .int o_people, .int o_draftTrades, .int o_draftPeople, .int o_isShut, .ref a_o_tunes, .ref a_o_s, .ref a_o_spare, .ref a_o_kept, .ref a_o_isKept, .ref a_o_makes, .ref a_o_works, .ref a_o_order, .int o_falling]))]) hK hN hA hS hP hD [0] rfl rfl (q0 := 0) (ci := 5) rfl rfl rfl) rfl rfl hl.1 rfl (lv_room (Nat.le_of_ble_eq_true rfl)) dX5_readsItem_203 ⟨Nat.zero_le _, Nat.zero_le _⟩) hP hD hS hA [0] rfl rfl rfl (fun H locs hP hD hS => ?_)
          have hP : va_P (dC, dI) vwCl [(a_o, .inr (5, [.int o_thrown, .long o_trace, .ref a_o_text, .int o_typed, .int o_next_66, .int o_token_67, .int o_place_68, .int o_value_69, .int o_fault_70, .ref a_o_need, .ref a_o_made, .ref a_o_skillTold, .ref a_o_placeTold, .ref a_o_skips, .ref a_o_wheelTold, .int o_trades, .int o_people, .int o_draftTrades, .int o_draftPeople, .int o_isShut, .ref a_o_tunes, .ref a_o_s, .ref a_o_spare, .ref a_o_kept, .ref a_o_isKept, .ref a_o_makes, .ref a_o_works, .ref a_o_order, .int o_falling])), (a_o_text, .inl (cI, 400, .inl o_text)), (a_o_need, .inl (cI, 12, .inl o_need)), (a_o_made, .inl (cI, 12, .inl o_made)), (a_o_skillTold, .inl (cI, 72, .inl o_skillTold)), (a_o_placeTold, .inl (cI, 12, .inl o_placeTold)), (a_o_skips, .inl (cI, 12, .inl o_skips)), (a_o_wheelTold, .inl (cI, 12, .inl o_wheelTold))] H := hP
          have hD : va_D A [(a_o, .inr (5, [.int o_thrown, .long o_trace, .ref a_o_text, .int o_typed, .int o_next_66, .int o_token_67, .int o_place_68, .int o_value_69, .int o_fault_70, .ref a_o_need, .ref a_o_made, .ref a_o_skillTold, .ref a_o_placeTold, .ref a_o_skips, .ref a_o_wheelTold, .int o_trades, .int o_people, .int o_draftTrades, .int o_draftPeople, .int o_isShut, .ref a_o_tunes, .ref a_o_s, .ref a_o_spare, .ref a_o_kept, .ref a_o_isKept, .ref a_o_makes, .ref a_o_works, .ref a_o_order, .int o_falling])), (a_o_text, .inl (cI, 400, .inl o_text)), (a_o_need, .inl (cI, 12, .inl o_need)), (a_o_made, .inl (cI, 12, .inl o_made)), (a_o_skillTold, .inl (cI, 72, .inl o_skillTold)), (a_o_placeTold, .inl (cI, 12, .inl o_placeTold)), (a_o_skips, .inl (cI, 12, .inl o_skips)), (a_o_wheelTold, .inl (cI, 12, .inl o_wheelTold))] := hD
          refine lv_if_eq (tgt := 233) hx hb dX5_readsItem_206 (by decide) (fun c_72 => ?_) (fun c_72 => ?_)
          · have hf := pit hf c_72
            refine lv_aload_n hx hb dX5_readsItem_233 rfl (lv_at hl 3 rfl) ?_
            obtain ⟨r_73, hc, hf⟩ := pb1 hf
            refine gCi (va_runV (As := []) (rest := []) hF (kX5_isWell l dC dI Z cC cI cZ cW a_o a_o_text a_o_need a_o_made a_o_skillTold a_o_placeTold a_o_skips a_o_wheelTold a_o_tunes a_o_s a_o_spare a_o_kept a_o_isKept a_o_makes a_o_works a_o_order _ o_thrown o_trace o_typed o_next_66 o_token_67 o_place_68 o_value_69 o_fault_70 o_trades o_people o_draftTrades o_draftPeople o_isShut o_falling  N r_73 hc) (cwV 0 hts gX5_readsItem_X5_isWell rfl rfl rfl (by decide +kernel) ⟨Nat.le_of_ble_eq_true rfl, Nat.le_of_ble_eq_true rfl⟩) (gPV (wc := [(a_o, .inr (5, [.int o_thrown, .long o_trace, .ref a_o_text, .int o_typed, .int o_next_66, .int o_token_67, .int o_place_68, .int o_value_69, .int o_fault_70, .ref a_o_need, .ref a_o_made, .ref a_o_skillTold, .ref a_o_placeTold, .ref a_o_skips, .ref a_o_wheelTold, .int o_trades, .int o_people, .int o_draftTrades, .int o_draftPeople, .int o_isShut, .ref a_o_tunes, .ref a_o_s, .ref a_o_spare, .ref a_o_kept, .ref a_o_isKept, .ref a_o_makes, .ref a_o_works, .ref a_o_order, .int o_falling]))]) hK hN hA hS hP hD [0] rfl rfl (q0 := 0) (ci := 5) rfl rfl rfl) rfl rfl hl.1 rfl (lv_room (Nat.le_of_ble_eq_true rfl)) dX5_readsItem_234 ⟨Nat.zero_le _, Nat.zero_le _⟩) hP hD hS hA [0] rfl rfl rfl (fun H locs hP hD hS => ?_)
            have hP : va_P (dC, dI) vwCl [(a_o, .inr (5, [.int o_thrown, .long o_trace, .ref a_o_text, .int o_typed, .int o_next_66, .int o_token_67, .int o_place_68, .int o_value_69, .int o_fault_70, .ref a_o_need, .ref a_o_made, .ref a_o_skillTold, .ref a_o_placeTold, .ref a_o_skips, .ref a_o_wheelTold, .int o_trades, .int o_people, .int o_draftTrades, .int o_draftPeople, .int o_isShut, .ref a_o_tunes, .ref a_o_s, .ref a_o_spare, .ref a_o_kept, .ref a_o_isKept, .ref a_o_makes, .ref a_o_works, .ref a_o_order, .int o_falling])), (a_o_text, .inl (cI, 400, .inl o_text)), (a_o_need, .inl (cI, 12, .inl o_need)), (a_o_made, .inl (cI, 12, .inl o_made)), (a_o_skillTold, .inl (cI, 72, .inl o_skillTold)), (a_o_placeTold, .inl (cI, 12, .inl o_placeTold)), (a_o_skips, .inl (cI, 12, .inl o_skips)), (a_o_wheelTold, .inl (cI, 12, .inl o_wheelTold))] H := hP
            have hD : va_D A [(a_o, .inr (5, [.int o_thrown, .long o_trace, .ref a_o_text, .int o_typed, .int o_next_66, .int o_token_67, .int o_place_68, .int o_value_69, .int o_fault_70, .ref a_o_need, .ref a_o_made, .ref a_o_skillTold, .ref a_o_placeTold, .ref a_o_skips, .ref a_o_wheelTold, .int o_trades, .int o_people, .int o_draftTrades, .int o_draftPeople, .int o_isShut, .ref a_o_tunes, .ref a_o_s, .ref a_o_spare, .ref a_o_kept, .ref a_o_isKept, .ref a_o_makes, .ref a_o_works, .ref a_o_order, .int o_falling])), (a_o_text, .inl (cI, 400, .inl o_text)), (a_o_need, .inl (cI, 12, .inl o_need)), (a_o_made, .inl (cI, 12, .inl o_made)), (a_o_skillTold, .inl (cI, 72, .inl o_skillTold)), (a_o_placeTold, .inl (cI, 12, .inl o_placeTold)), (a_o_skips, .inl (cI, 12, .inl o_skips)), (a_o_wheelTold, .inl (cI, 12, .inl o_wheelTold))] := hD
            refine lv_if_eq (tgt := 263) hx hb dX5_readsItem_237 (by decide) (fun c_74 => ?_) (fun c_74 => ?_)
            · have hf := pit hf c_74
              refine lv_aload_n hx hb dX5_readsItem_263 rfl (lv_at hl 3 rfl) ?_
              obtain ⟨r_75, hc, hf⟩ := pb1 hf
              refine gCi (va_runV (As := []) (rest := []) hF (kX5_isWell l dC dI Z cC cI cZ cW a_o a_o_text a_o_need a_o_made a_o_skillTold a_o_placeTold a_o_skips a_o_wheelTold a_o_tunes a_o_s a_o_spare a_o_kept a_o_isKept a_o_makes a_o_works a_o_order _ o_thrown o_trace o_typed o_next_66 o_token_67 o_place_68 o_value_69 o_fault_70 o_trades o_people o_draftTrades o_draftPeople o_isShut o_falling  N r_75 hc) (cwV 0 hts gX5_readsItem_X5_isWell rfl rfl rfl (by decide +kernel) ⟨Nat.le_of_ble_eq_true rfl, Nat.le_of_ble_eq_true rfl⟩) (gPV (wc := [(a_o, .inr (5, [.int o_thrown, .long o_trace, .ref a_o_text, .int o_typed, .int o_next_66, .int o_token_67, .int o_place_68, .int o_value_69, .int o_fault_70, .ref a_o_need, .ref a_o_made, .ref a_o_skillTold, .ref a_o_placeTold, .ref a_o_skips, .ref a_o_wheelTold, .int o_trades, .int o_people, .int o_draftTrades, .int o_draftPeople, .int o_isShut, .ref a_o_tunes, .ref a_o_s, .ref a_o_spare, .ref a_o_kept, .ref a_o_isKept, .ref a_o_makes, .ref a_o_works, .ref a_o_order, .int o_falling]))]) hK hN hA hS hP hD [0] rfl rfl (q0 := 0) (ci := 5) rfl rfl rfl) rfl rfl hl.1 rfl (lv_room (Nat.le_of_ble_eq_true rfl)) dX5_readsItem_264 ⟨Nat.zero_le _, Nat.zero_le _⟩) hP hD hS hA [0] rfl rfl rfl (fun H locs hP hD hS => ?_)
              have hP : va_P (dC, dI) vwCl [(a_o, .inr (5, [.int o_thrown, .long o_trace, .ref a_o_text, .int o_typed, .int o_next_66, .int o_token_67, .int o_place_68, .int o_value_69, .int o_fault_70, .ref a_o_need, .ref a_o_made, .ref a_o_skillTold, .ref a_o_placeTold, .ref a_o_skips, .ref a_o_wheelTold, .int o_trades, .int o_people, .int o_draftTrades, .int o_draftPeople, .int o_isShut, .ref a_o_tunes, .ref a_o_s, .ref a_o_spare, .ref a_o_kept, .ref a_o_isKept, .ref a_o_makes, .ref a_o_works, .ref a_o_order, .int o_falling])), (a_o_text, .inl (cI, 400, .inl o_text)), (a_o_need, .inl (cI, 12, .inl o_need)), (a_o_made, .inl (cI, 12, .inl o_made)), (a_o_skillTold, .inl (cI, 72, .inl o_skillTold)), (a_o_placeTold, .inl (cI, 12, .inl o_placeTold)), (a_o_skips, .inl (cI, 12, .inl o_skips)), (a_o_wheelTold, .inl (cI, 12, .inl o_wheelTold))] H := hP
              have hD : va_D A [(a_o, .inr (5, [.int o_thrown, .long o_trace, .ref a_o_text, .int o_typed, .int o_next_66, .int o_token_67, .int o_place_68, .int o_value_69, .int o_fault_70, .ref a_o_need, .ref a_o_made, .ref a_o_skillTold, .ref a_o_placeTold, .ref a_o_skips, .ref a_o_wheelTold, .int o_trades, .int o_people, .int o_draftTrades, .int o_draftPeople, .int o_isShut, .ref a_o_tunes, .ref a_o_s, .ref a_o_spare, .ref a_o_kept, .ref a_o_isKept, .ref a_o_makes, .ref a_o_works, .ref a_o_order, .int o_falling])), (a_o_text, .inl (cI, 400, .inl o_text)), (a_o_need, .inl (cI, 12, .inl o_need)), (a_o_made, .inl (cI, 12, .inl o_made)), (a_o_skillTold, .inl (cI, 72, .inl o_skillTold)), (a_o_placeTold, .inl (cI, 12, .inl o_placeTold)), (a_o_skips, .inl (cI, 12, .inl o_skips)), (a_o_wheelTold, .inl (cI, 12, .inl o_wheelTold))] := hD
              refine lv_if_eq (tgt := 280) hx hb dX5_readsItem_267 (by decide) (fun c_76 => ?_) (fun c_76 => ?_)
              · have hf := pit hf c_76
                refine lv_aload_n hx hb dX5_readsItem_280 rfl (lv_at hl 3 rfl) ?_
                refine lv_aload_n hx hb dX5_readsItem_281 rfl (lv_at hl 3 rfl) ?_
                refine va_get (D := (dC, dI)) (ci := 5) (v := .int o_isShut) (C := RX5) (T := TX5) (N := 29) hx hb hts uX5_readsItem_X5 hown hK hP 0 rfl rfl 19 (by decide) (hts _ mX5_readsItem_2) (fun _ h9 => h9) rfl dX5_readsItem_282 ?_
                refine lv_if_ne (tgt := 293) hx hb dX5_readsItem_285 (by decide) (fun c_77 => ?_) (fun c_77 => ?_)
                · have hf := pif hf c_77
                  refine lv_iconst (v := (1 : Int32)) hx hb dX5_readsItem_293 (by decide) ?_
                  refine lv_goto (tgt := 298) hx hb dX5_readsItem_294 (by decide) ?_
                  refine va_put (D := (dC, dI)) (ci := 5) (v := .int (1 : Int32)) (ty := .boolean) (C := RX5) (T := TX5) (N := 29) hx hb hts uX5_readsItem_X5 tyX5 tyX5_ok nmX5 hown hK hP hD hS 0 rfl rfl 19 (by decide) (hts _ mX5_readsItem_2) (fun _ h9 => h9) rfl (by decide +kernel) rfl rfl (Nat.le_of_ble_eq_true rfl) dX5_readsItem_298 (fun H locs hP hD hS => ?_)
                  have hP : va_P (dC, dI) vwCl [(a_o, .inr (5, [.int o_thrown, .long o_trace, .ref a_o_text, .int o_typed, .int o_next_66, .int o_token_67, .int o_place_68, .int o_value_69, .int o_fault_70, .ref a_o_need, .ref a_o_made, .ref a_o_skillTold, .ref a_o_placeTold, .ref a_o_skips, .ref a_o_wheelTold, .int o_trades, .int o_people, .int o_draftTrades, .int o_draftPeople, .int (1 : Int32), .ref a_o_tunes, .ref a_o_s, .ref a_o_spare, .ref a_o_kept, .ref a_o_isKept, .ref a_o_makes, .ref a_o_works, .ref a_o_order, .int o_falling])), (a_o_text, .inl (cI, 400, .inl o_text)), (a_o_need, .inl (cI, 12, .inl o_need)), (a_o_made, .inl (cI, 12, .inl o_made)), (a_o_skillTold, .inl (cI, 72, .inl o_skillTold)), (a_o_placeTold, .inl (cI, 12, .inl o_placeTold)), (a_o_skips, .inl (cI, 12, .inl o_skips)), (a_o_wheelTold, .inl (cI, 12, .inl o_wheelTold))] H := hP
                  have hD : va_D A [(a_o, .inr (5, [.int o_thrown, .long o_trace, .ref a_o_text, .int o_typed, .int o_next_66, .int o_token_67, .int o_place_68, .int o_value_69, .int o_fault_70, .ref a_o_need, .ref a_o_made, .ref a_o_skillTold, .ref a_o_placeTold, .ref a_o_skips, .ref a_o_wheelTold, .int o_trades, .int o_people, .int o_draftTrades, .int o_draftPeople, .int (1 : Int32), .ref a_o_tunes, .ref a_o_s, .ref a_o_spare, .ref a_o_kept, .ref a_o_isKept, .ref a_o_makes, .ref a_o_works, .ref a_o_order, .int o_falling])), (a_o_text, .inl (cI, 400, .inl o_text)), (a_o_need, .inl (cI, 12, .inl o_need)), (a_o_made, .inl (cI, 12, .inl o_made)), (a_o_skillTold, .inl (cI, 72, .inl o_skillTold)), (a_o_placeTold, .inl (cI, 12, .inl o_placeTold)), (a_o_skips, .inl (cI, 12, .inl o_skips)), (a_o_wheelTold, .inl (cI, 12, .inl o_wheelTold))] := hD
                  have q0 := Option.some.inj hf
                  obtain ⟨e0, q1⟩ := Prod.mk.inj q0
                  obtain ⟨e1, q2⟩ := Prod.mk.inj q1
                  obtain ⟨e2, q3⟩ := Prod.mk.inj q2
                  obtain ⟨e3, q4⟩ := Prod.mk.inj q3
                  obtain ⟨e4, q5⟩ := Prod.mk.inj q4
                  obtain ⟨e5, q6⟩ := Prod.mk.inj q5
                  obtain ⟨e6, q7⟩ := Prod.mk.inj q6
                  obtain ⟨e7, q8⟩ := Prod.mk.inj q7
                  obtain ⟨e8, q9⟩ := Prod.mk.inj q8
                  obtain ⟨e9, q10⟩ := Prod.mk.inj q9
                  obtain ⟨e10, q11⟩ := Prod.mk.inj q10
                  obtain ⟨e11, q12⟩ := Prod.mk.inj q11
                  obtain ⟨e12, q13⟩ := Prod.mk.inj q12
                  subst e0
                  subst e1
                  subst e2
                  subst e3
                  subst e4
                  subst e5
                  subst e6
                  subst e7
                  subst e8
                  subst e9
                  subst e10
                  subst e11
                  subst e12
                  subst q13
                  exact gRv hx hb hr hlocks hP hS dX5_readsItem_301
                · have hf := pit hf c_77
                  refine lv_iload_n hx hb dX5_readsItem_288 rfl (lv_at hl 4 rfl) ?_
                  refine lv_iconst (v := (1 : Int32)) hx hb dX5_readsItem_289 (by decide) ?_
                  refine lv_icmp_le (tgt := 297) hx hb dX5_readsItem_290 (by decide) (fun c_78 => ?_) (fun c_78 => ?_)
                  · have hf := pit hf c_78
                    refine lv_iconst (v := (0 : Int32)) hx hb dX5_readsItem_297 (by decide) ?_
                    refine va_put (D := (dC, dI)) (ci := 5) (v := .int (0 : Int32)) (ty := .boolean) (C := RX5) (T := TX5) (N := 29) hx hb hts uX5_readsItem_X5 tyX5 tyX5_ok nmX5 hown hK hP hD hS 0 rfl rfl 19 (by decide) (hts _ mX5_readsItem_2) (fun _ h9 => h9) rfl (by decide +kernel) rfl rfl (Nat.le_of_ble_eq_true rfl) dX5_readsItem_298 (fun H locs hP hD hS => ?_)
                    have hP : va_P (dC, dI) vwCl [(a_o, .inr (5, [.int o_thrown, .long o_trace, .ref a_o_text, .int o_typed, .int o_next_66, .int o_token_67, .int o_place_68, .int o_value_69, .int o_fault_70, .ref a_o_need, .ref a_o_made, .ref a_o_skillTold, .ref a_o_placeTold, .ref a_o_skips, .ref a_o_wheelTold, .int o_trades, .int o_people, .int o_draftTrades, .int o_draftPeople, .int (0 : Int32), .ref a_o_tunes, .ref a_o_s, .ref a_o_spare, .ref a_o_kept, .ref a_o_isKept, .ref a_o_makes, .ref a_o_works, .ref a_o_order, .int o_falling])), (a_o_text, .inl (cI, 400, .inl o_text)), (a_o_need, .inl (cI, 12, .inl o_need)), (a_o_made, .inl (cI, 12, .inl o_made)), (a_o_skillTold, .inl (cI, 72, .inl o_skillTold)), (a_o_placeTold, .inl (cI, 12, .inl o_placeTold)), (a_o_skips, .inl (cI, 12, .inl o_skips)), (a_o_wheelTold, .inl (cI, 12, .inl o_wheelTold))] H := hP
                    have hD : va_D A [(a_o, .inr (5, [.int o_thrown, .long o_trace, .ref a_o_text, .int o_typed, .int o_next_66, .int o_token_67, .int o_place_68, .int o_value_69, .int o_fault_70, .ref a_o_need, .ref a_o_made, .ref a_o_skillTold, .ref a_o_placeTold, .ref a_o_skips, .ref a_o_wheelTold, .int o_trades, .int o_people, .int o_draftTrades, .int o_draftPeople, .int (0 : Int32), .ref a_o_tunes, .ref a_o_s, .ref a_o_spare, .ref a_o_kept, .ref a_o_isKept, .ref a_o_makes, .ref a_o_works, .ref a_o_order, .int o_falling])), (a_o_text, .inl (cI, 400, .inl o_text)), (a_o_need, .inl (cI, 12, .inl o_need)), (a_o_made, .inl (cI, 12, .inl o_made)), (a_o_skillTold, .inl (cI, 72, .inl o_skillTold)), (a_o_placeTold, .inl (cI, 12, .inl o_placeTold)), (a_o_skips, .inl (cI, 12, .inl o_skips)), (a_o_wheelTold, .inl (cI, 12, .inl o_wheelTold))] := hD
                    have q0 := Option.some.inj hf
                    obtain ⟨e0, q1⟩ := Prod.mk.inj q0
                    obtain ⟨e1, q2⟩ := Prod.mk.inj q1
                    obtain ⟨e2, q3⟩ := Prod.mk.inj q2
                    obtain ⟨e3, q4⟩ := Prod.mk.inj q3
                    obtain ⟨e4, q5⟩ := Prod.mk.inj q4
                    obtain ⟨e5, q6⟩ := Prod.mk.inj q5
                    obtain ⟨e6, q7⟩ := Prod.mk.inj q6
                    obtain ⟨e7, q8⟩ := Prod.mk.inj q7
                    obtain ⟨e8, q9⟩ := Prod.mk.inj q8
                    obtain ⟨e9, q10⟩ := Prod.mk.inj q9
                    obtain ⟨e10, q11⟩ := Prod.mk.inj q10
                    obtain ⟨e11, q12⟩ := Prod.mk.inj q11
                    obtain ⟨e12, q13⟩ := Prod.mk.inj q12
                    subst e0
                    subst e1
                    subst e2
                    subst e3
                    subst e4
                    subst e5
                    subst e6
                    subst e7
                    subst e8
                    subst e9
                    subst e10
                    subst e11
                    subst e12
                    subst q13
                    exact gRv hx hb hr hlocks hP hS dX5_readsItem_301
                  · have hf := pif hf c_78
                    refine lv_iconst (v := (1 : Int32)) hx hb dX5_readsItem_293 (by decide) ?_
                    refine lv_goto (tgt := 298) hx hb dX5_readsItem_294 (by decide) ?_
                    refine va_put (D := (dC, dI)) (ci := 5) (v := .int (1 : Int32)) (ty := .boolean) (C := RX5) (T := TX5) (N := 29) hx hb hts uX5_readsItem_X5 tyX5 tyX5_ok nmX5 hown hK hP hD hS 0 rfl rfl 19 (by decide) (hts _ mX5_readsItem_2) (fun _ h9 => h9) rfl (by decide +kernel) rfl rfl (Nat.le_of_ble_eq_true rfl) dX5_readsItem_298 (fun H locs hP hD hS => ?_)
                    have hP : va_P (dC, dI) vwCl [(a_o, .inr (5, [.int o_thrown, .long o_trace, .ref a_o_text, .int o_typed, .int o_next_66, .int o_token_67, .int o_place_68, .int o_value_69, .int o_fault_70, .ref a_o_need, .ref a_o_made, .ref a_o_skillTold, .ref a_o_placeTold, .ref a_o_skips, .ref a_o_wheelTold, .int o_trades, .int o_people, .int o_draftTrades, .int o_draftPeople, .int (1 : Int32), .ref a_o_tunes, .ref a_o_s, .ref a_o_spare, .ref a_o_kept, .ref a_o_isKept, .ref a_o_makes, .ref a_o_works, .ref a_o_order, .int o_falling])), (a_o_text, .inl (cI, 400, .inl o_text)), (a_o_need, .inl (cI, 12, .inl o_need)), (a_o_made, .inl (cI, 12, .inl o_made)), (a_o_skillTold, .inl (cI, 72, .inl o_skillTold)), (a_o_placeTold, .inl (cI, 12, .inl o_placeTold)), (a_o_skips, .inl (cI, 12, .inl o_skips)), (a_o_wheelTold, .inl (cI, 12, .inl o_wheelTold))] H := hP
                    have hD : va_D A [(a_o, .inr (5, [.int o_thrown, .long o_trace, .ref a_o_text, .int o_typed, .int o_next_66, .int o_token_67, .int o_place_68, .int o_value_69, .int o_fault_70, .ref a_o_need, .ref a_o_made, .ref a_o_skillTold, .ref a_o_placeTold, .ref a_o_skips, .ref a_o_wheelTold, .int o_trades, .int o_people, .int o_draftTrades, .int o_draftPeople, .int (1 : Int32), .ref a_o_tunes, .ref a_o_s, .ref a_o_spare, .ref a_o_kept, .ref a_o_isKept, .ref a_o_makes, .ref a_o_works, .ref a_o_order, .int o_falling])), (a_o_text, .inl (cI, 400, .inl o_text)), (a_o_need, .inl (cI, 12, .inl o_need)), (a_o_made, .inl (cI, 12, .inl o_made)), (a_o_skillTold, .inl (cI, 72, .inl o_skillTold)), (a_o_placeTold, .inl (cI, 12, .inl o_placeTold)), (a_o_skips, .inl (cI, 12, .inl o_skips)), (a_o_wheelTold, .inl (cI, 12, .inl o_wheelTold))] := hD
                    have q0 := Option.some.inj hf
                    obtain ⟨e0, q1⟩ := Prod.mk.inj q0
                    obtain ⟨e1, q2⟩ := Prod.mk.inj q1
                    obtain ⟨e2, q3⟩ := Prod.mk.inj q2
                    obtain ⟨e3, q4⟩ := Prod.mk.inj q3
                    obtain ⟨e4, q5⟩ := Prod.mk.inj q4
                    obtain ⟨e5, q6⟩ := Prod.mk.inj q5
                    obtain ⟨e6, q7⟩ := Prod.mk.inj q6
                    obtain ⟨e7, q8⟩ := Prod.mk.inj q7
                    obtain ⟨e8, q9⟩ := Prod.mk.inj q8
                    obtain ⟨e9, q10⟩ := Prod.mk.inj q9
                    obtain ⟨e10, q11⟩ := Prod.mk.inj q10
                    obtain ⟨e11, q12⟩ := Prod.mk.inj q11
                    obtain ⟨e12, q13⟩ := Prod.mk.inj q12
                    subst e0
                    subst e1
                    subst e2
                    subst e3
                    subst e4
                    subst e5
                    subst e6
                    subst e7
                    subst e8
                    subst e9
                    subst e10
                    subst e11
                    subst e12
                    subst q13
                    exact gRv hx hb hr hlocks hP hS dX5_readsItem_301
              · have hf := pif hf c_76
                refine lv_aload_n hx hb dX5_readsItem_270 rfl (lv_at hl 3 rfl) ?_
                refine va_get (D := (dC, dI)) (ci := 5) (v := .ref a_o_placeTold) (C := RX5) (T := TX5) (N := 29) hx hb hts uX5_readsItem_X5 hown hK hP 0 rfl rfl 12 (by decide) (hts _ mX5_readsItem_3) (fun _ h9 => h9) rfl dX5_readsItem_271 ?_
                refine lv_bipush (v := (6 : Int32)) hx hb dX5_readsItem_274 (by decide) ?_
                refine lv_iload_n hx hb dX5_readsItem_276 rfl (lv_at hl 2 rfl) ?_
                refine lv_iadd hx hb dX5_readsItem_277 ?_
                refine lv_iload_n hx hb dX5_readsItem_278 rfl (lv_at hl 1 rfl) ?_
                obtain ⟨h_79, hf⟩ := pgd hf
                refine va_iast hx hb hK hP hD hS 5 1 rfl rfl h_79 dX5_readsItem_279 (fun H locs hP hD hS => ?_)
                have hP : va_P (dC, dI) vwCl [(a_o, .inr (5, [.int o_thrown, .long o_trace, .ref a_o_text, .int o_typed, .int o_next_66, .int o_token_67, .int o_place_68, .int o_value_69, .int o_fault_70, .ref a_o_need, .ref a_o_made, .ref a_o_skillTold, .ref a_o_placeTold, .ref a_o_skips, .ref a_o_wheelTold, .int o_trades, .int o_people, .int o_draftTrades, .int o_draftPeople, .int o_isShut, .ref a_o_tunes, .ref a_o_s, .ref a_o_spare, .ref a_o_kept, .ref a_o_isKept, .ref a_o_makes, .ref a_o_works, .ref a_o_order, .int o_falling])), (a_o_text, .inl (cI, 400, .inl o_text)), (a_o_need, .inl (cI, 12, .inl o_need)), (a_o_made, .inl (cI, 12, .inl o_made)), (a_o_skillTold, .inl (cI, 72, .inl o_skillTold)), (a_o_placeTold, .inl (cI, 12, .inl (upd o_placeTold ((6 : Int32) + r_4).toNatClampNeg r_10))), (a_o_skips, .inl (cI, 12, .inl o_skips)), (a_o_wheelTold, .inl (cI, 12, .inl o_wheelTold))] H := hP
                have hD : va_D A [(a_o, .inr (5, [.int o_thrown, .long o_trace, .ref a_o_text, .int o_typed, .int o_next_66, .int o_token_67, .int o_place_68, .int o_value_69, .int o_fault_70, .ref a_o_need, .ref a_o_made, .ref a_o_skillTold, .ref a_o_placeTold, .ref a_o_skips, .ref a_o_wheelTold, .int o_trades, .int o_people, .int o_draftTrades, .int o_draftPeople, .int o_isShut, .ref a_o_tunes, .ref a_o_s, .ref a_o_spare, .ref a_o_kept, .ref a_o_isKept, .ref a_o_makes, .ref a_o_works, .ref a_o_order, .int o_falling])), (a_o_text, .inl (cI, 400, .inl o_text)), (a_o_need, .inl (cI, 12, .inl o_need)), (a_o_made, .inl (cI, 12, .inl o_made)), (a_o_skillTold, .inl (cI, 72, .inl o_skillTold)), (a_o_placeTold, .inl (cI, 12, .inl (upd o_placeTold ((6 : Int32) + r_4).toNatClampNeg r_10))), (a_o_skips, .inl (cI, 12, .inl o_skips)), (a_o_wheelTold, .inl (cI, 12, .inl o_wheelTold))] := hD
                refine lv_aload_n hx hb dX5_readsItem_280 rfl (lv_at hl 3 rfl) ?_
                refine lv_aload_n hx hb dX5_readsItem_281 rfl (lv_at hl 3 rfl) ?_
                refine va_get (D := (dC, dI)) (ci := 5) (v := .int o_isShut) (C := RX5) (T := TX5) (N := 29) hx hb hts uX5_readsItem_X5 hown hK hP 0 rfl rfl 19 (by decide) (hts _ mX5_readsItem_2) (fun _ h9 => h9) rfl dX5_readsItem_282 ?_
                refine lv_if_ne (tgt := 293) hx hb dX5_readsItem_285 (by decide) (fun c_80 => ?_) (fun c_80 => ?_)
                · have hf := pif hf c_80
                  refine lv_iconst (v := (1 : Int32)) hx hb dX5_readsItem_293 (by decide) ?_
                  refine lv_goto (tgt := 298) hx hb dX5_readsItem_294 (by decide) ?_
                  refine va_put (D := (dC, dI)) (ci := 5) (v := .int (1 : Int32)) (ty := .boolean) (C := RX5) (T := TX5) (N := 29) hx hb hts uX5_readsItem_X5 tyX5 tyX5_ok nmX5 hown hK hP hD hS 0 rfl rfl 19 (by decide) (hts _ mX5_readsItem_2) (fun _ h9 => h9) rfl (by decide +kernel) rfl rfl (Nat.le_of_ble_eq_true rfl) dX5_readsItem_298 (fun H locs hP hD hS => ?_)
                  have hP : va_P (dC, dI) vwCl [(a_o, .inr (5, [.int o_thrown, .long o_trace, .ref a_o_text, .int o_typed, .int o_next_66, .int o_token_67, .int o_place_68, .int o_value_69, .int o_fault_70, .ref a_o_need, .ref a_o_made, .ref a_o_skillTold, .ref a_o_placeTold, .ref a_o_skips, .ref a_o_wheelTold, .int o_trades, .int o_people, .int o_draftTrades, .int o_draftPeople, .int (1 : Int32), .ref a_o_tunes, .ref a_o_s, .ref a_o_spare, .ref a_o_kept, .ref a_o_isKept, .ref a_o_makes, .ref a_o_works, .ref a_o_order, .int o_falling])), (a_o_text, .inl (cI, 400, .inl o_text)), (a_o_need, .inl (cI, 12, .inl o_need)), (a_o_made, .inl (cI, 12, .inl o_made)), (a_o_skillTold, .inl (cI, 72, .inl o_skillTold)), (a_o_placeTold, .inl (cI, 12, .inl (upd o_placeTold ((6 : Int32) + r_4).toNatClampNeg r_10))), (a_o_skips, .inl (cI, 12, .inl o_skips)), (a_o_wheelTold, .inl (cI, 12, .inl o_wheelTold))] H := hP
                  have hD : va_D A [(a_o, .inr (5, [.int o_thrown, .long o_trace, .ref a_o_text, .int o_typed, .int o_next_66, .int o_token_67, .int o_place_68, .int o_value_69, .int o_fault_70, .ref a_o_need, .ref a_o_made, .ref a_o_skillTold, .ref a_o_placeTold, .ref a_o_skips, .ref a_o_wheelTold, .int o_trades, .int o_people, .int o_draftTrades, .int o_draftPeople, .int (1 : Int32), .ref a_o_tunes, .ref a_o_s, .ref a_o_spare, .ref a_o_kept, .ref a_o_isKept, .ref a_o_makes, .ref a_o_works, .ref a_o_order, .int o_falling])), (a_o_text, .inl (cI, 400, .inl o_text)), (a_o_need, .inl (cI, 12, .inl o_need)), (a_o_made, .inl (cI, 12, .inl o_made)), (a_o_skillTold, .inl (cI, 72, .inl o_skillTold)), (a_o_placeTold, .inl (cI, 12, .inl (upd o_placeTold ((6 : Int32) + r_4).toNatClampNeg r_10))), (a_o_skips, .inl (cI, 12, .inl o_skips)), (a_o_wheelTold, .inl (cI, 12, .inl o_wheelTold))] := hD
                  have q0 := Option.some.inj hf
                  obtain ⟨e0, q1⟩ := Prod.mk.inj q0
                  obtain ⟨e1, q2⟩ := Prod.mk.inj q1
                  obtain ⟨e2, q3⟩ := Prod.mk.inj q2
                  obtain ⟨e3, q4⟩ := Prod.mk.inj q3
                  obtain ⟨e4, q5⟩ := Prod.mk.inj q4
                  obtain ⟨e5, q6⟩ := Prod.mk.inj q5
                  obtain ⟨e6, q7⟩ := Prod.mk.inj q6
                  obtain ⟨e7, q8⟩ := Prod.mk.inj q7
                  obtain ⟨e8, q9⟩ := Prod.mk.inj q8
                  obtain ⟨e9, q10⟩ := Prod.mk.inj q9
                  obtain ⟨e10, q11⟩ := Prod.mk.inj q10
                  obtain ⟨e11, q12⟩ := Prod.mk.inj q11
                  obtain ⟨e12, q13⟩ := Prod.mk.inj q12
                  subst e0
                  subst e1
                  subst e2
                  subst e3
                  subst e4
                  subst e5
                  subst e6
                  subst e7
                  subst e8
                  subst e9
                  subst e10
                  subst e11
                  subst e12
                  subst q13
                  exact gRv hx hb hr hlocks hP hS dX5_readsItem_301
                · have hf := pit hf c_80
                  refine lv_iload_n hx hb dX5_readsItem_288 rfl (lv_at hl 4 rfl) ?_
                  refine lv_iconst (v := (1 : Int32)) hx hb dX5_readsItem_289 (by decide) ?_
                  refine lv_icmp_le (tgt := 297) hx hb dX5_readsItem_290 (by decide) (fun c_81 => ?_) (fun c_81 => ?_)
                  · have hf := pit hf c_81
                    refine lv_iconst (v := (0 : Int32)) hx hb dX5_readsItem_297 (by decide) ?_
                    refine va_put (D := (dC, dI)) (ci := 5) (v := .int (0 : Int32)) (ty := .boolean) (C := RX5) (T := TX5) (N := 29) hx hb hts uX5_readsItem_X5 tyX5 tyX5_ok nmX5 hown hK hP hD hS 0 rfl rfl 19 (by decide) (hts _ mX5_readsItem_2) (fun _ h9 => h9) rfl (by decide +kernel) rfl rfl (Nat.le_of_ble_eq_true rfl) dX5_readsItem_298 (fun H locs hP hD hS => ?_)
                    have hP : va_P (dC, dI) vwCl [(a_o, .inr (5, [.int o_thrown, .long o_trace, .ref a_o_text, .int o_typed, .int o_next_66, .int o_token_67, .int o_place_68, .int o_value_69, .int o_fault_70, .ref a_o_need, .ref a_o_made, .ref a_o_skillTold, .ref a_o_placeTold, .ref a_o_skips, .ref a_o_wheelTold, .int o_trades, .int o_people, .int o_draftTrades, .int o_draftPeople, .int (0 : Int32), .ref a_o_tunes, .ref a_o_s, .ref a_o_spare, .ref a_o_kept, .ref a_o_isKept, .ref a_o_makes, .ref a_o_works, .ref a_o_order, .int o_falling])), (a_o_text, .inl (cI, 400, .inl o_text)), (a_o_need, .inl (cI, 12, .inl o_need)), (a_o_made, .inl (cI, 12, .inl o_made)), (a_o_skillTold, .inl (cI, 72, .inl o_skillTold)), (a_o_placeTold, .inl (cI, 12, .inl (upd o_placeTold ((6 : Int32) + r_4).toNatClampNeg r_10))), (a_o_skips, .inl (cI, 12, .inl o_skips)), (a_o_wheelTold, .inl (cI, 12, .inl o_wheelTold))] H := hP
                    have hD : va_D A [(a_o, .inr (5, [.int o_thrown, .long o_trace, .ref a_o_text, .int o_typed, .int o_next_66, .int o_token_67, .int o_place_68, .int o_value_69, .int o_fault_70, .ref a_o_need, .ref a_o_made, .ref a_o_skillTold, .ref a_o_placeTold, .ref a_o_skips, .ref a_o_wheelTold, .int o_trades, .int o_people, .int o_draftTrades, .int o_draftPeople, .int (0 : Int32), .ref a_o_tunes, .ref a_o_s, .ref a_o_spare, .ref a_o_kept, .ref a_o_isKept, .ref a_o_makes, .ref a_o_works, .ref a_o_order, .int o_falling])), (a_o_text, .inl (cI, 400, .inl o_text)), (a_o_need, .inl (cI, 12, .inl o_need)), (a_o_made, .inl (cI, 12, .inl o_made)), (a_o_skillTold, .inl (cI, 72, .inl o_skillTold)), (a_o_placeTold, .inl (cI, 12, .inl (upd o_placeTold ((6 : Int32) + r_4).toNatClampNeg r_10))), (a_o_skips, .inl (cI, 12, .inl o_skips)), (a_o_wheelTold, .inl (cI, 12, .inl o_wheelTold))] := hD
                    have q0 := Option.some.inj hf
                    obtain ⟨e0, q1⟩ := Prod.mk.inj q0
                    obtain ⟨e1, q2⟩ := Prod.mk.inj q1
                    obtain ⟨e2, q3⟩ := Prod.mk.inj q2
                    obtain ⟨e3, q4⟩ := Prod.mk.inj q3
                    obtain ⟨e4, q5⟩ := Prod.mk.inj q4
                    obtain ⟨e5, q6⟩ := Prod.mk.inj q5
                    obtain ⟨e6, q7⟩ := Prod.mk.inj q6
                    obtain ⟨e7, q8⟩ := Prod.mk.inj q7
                    obtain ⟨e8, q9⟩ := Prod.mk.inj q8
                    obtain ⟨e9, q10⟩ := Prod.mk.inj q9
                    obtain ⟨e10, q11⟩ := Prod.mk.inj q10
                    obtain ⟨e11, q12⟩ := Prod.mk.inj q11
                    obtain ⟨e12, q13⟩ := Prod.mk.inj q12
                    subst e0
                    subst e1
                    subst e2
                    subst e3
                    subst e4
                    subst e5
                    subst e6
                    subst e7
                    subst e8
                    subst e9
                    subst e10
                    subst e11
                    subst e12
                    subst q13
                    exact gRv hx hb hr hlocks hP hS dX5_readsItem_301
                  · have hf := pif hf c_81
                    refine lv_iconst (v := (1 : Int32)) hx hb dX5_readsItem_293 (by decide) ?_
                    refine lv_goto (tgt := 298) hx hb dX5_readsItem_294 (by decide) ?_
                    refine va_put (D := (dC, dI)) (ci := 5) (v := .int (1 : Int32)) (ty := .boolean) (C := RX5) (T := TX5) (N := 29) hx hb hts uX5_readsItem_X5 tyX5 tyX5_ok nmX5 hown hK hP hD hS 0 rfl rfl 19 (by decide) (hts _ mX5_readsItem_2) (fun _ h9 => h9) rfl (by decide +kernel) rfl rfl (Nat.le_of_ble_eq_true rfl) dX5_readsItem_298 (fun H locs hP hD hS => ?_)
                    have hP : va_P (dC, dI) vwCl [(a_o, .inr (5, [.int o_thrown, .long o_trace, .ref a_o_text, .int o_typed, .int o_next_66, .int o_token_67, .int o_place_68, .int o_value_69, .int o_fault_70, .ref a_o_need, .ref a_o_made, .ref a_o_skillTold, .ref a_o_placeTold, .ref a_o_skips, .ref a_o_wheelTold, .int o_trades, .int o_people, .int o_draftTrades, .int o_draftPeople, .int (1 : Int32), .ref a_o_tunes, .ref a_o_s, .ref a_o_spare, .ref a_o_kept, .ref a_o_isKept, .ref a_o_makes, .ref a_o_works, .ref a_o_order, .int o_falling])), (a_o_text, .inl (cI, 400, .inl o_text)), (a_o_need, .inl (cI, 12, .inl o_need)), (a_o_made, .inl (cI, 12, .inl o_made)), (a_o_skillTold, .inl (cI, 72, .inl o_skillTold)), (a_o_placeTold, .inl (cI, 12, .inl (upd o_placeTold ((6 : Int32) + r_4).toNatClampNeg r_10))), (a_o_skips, .inl (cI, 12, .inl o_skips)), (a_o_wheelTold, .inl (cI, 12, .inl o_wheelTold))] H := hP
                    have hD : va_D A [(a_o, .inr (5, [.int o_thrown, .long o_trace, .ref a_o_text, .int o_typed, .int o_next_66, .int o_token_67, .int o_place_68, .int o_value_69, .int o_fault_70, .ref a_o_need, .ref a_o_made, .ref a_o_skillTold, .ref a_o_placeTold, .ref a_o_skips, .ref a_o_wheelTold, .int o_trades, .int o_people, .int o_draftTrades, .int o_draftPeople, .int (1 : Int32), .ref a_o_tunes, .ref a_o_s, .ref a_o_spare, .ref a_o_kept, .ref a_o_isKept, .ref a_o_makes, .ref a_o_works, .ref a_o_order, .int o_falling])), (a_o_text, .inl (cI, 400, .inl o_text)), (a_o_need, .inl (cI, 12, .inl o_need)), (a_o_made, .inl (cI, 12, .inl o_made)), (a_o_skillTold, .inl (cI, 72, .inl o_skillTold)), (a_o_placeTold, .inl (cI, 12, .inl (upd o_placeTold ((6 : Int32) + r_4).toNatClampNeg r_10))), (a_o_skips, .inl (cI, 12, .inl o_skips)), (a_o_wheelTold, .inl (cI, 12, .inl o_wheelTold))] := hD
                    have q0 := Option.some.inj hf
                    obtain ⟨e0, q1⟩ := Prod.mk.inj q0
                    obtain ⟨e1, q2⟩ := Prod.mk.inj q1
                    obtain ⟨e2, q3⟩ := Prod.mk.inj q2
                    obtain ⟨e3, q4⟩ := Prod.mk.inj q3
                    obtain ⟨e4, q5⟩ := Prod.mk.inj q4
                    obtain ⟨e5, q6⟩ := Prod.mk.inj q5
                    obtain ⟨e6, q7⟩ := Prod.mk.inj q6
                    obtain ⟨e7, q8⟩ := Prod.mk.inj q7
                    obtain ⟨e8, q9⟩ := Prod.mk.inj q8
                    obtain ⟨e9, q10⟩ := Prod.mk.inj q9
                    obtain ⟨e10, q11⟩ := Prod.mk.inj q10
                    obtain ⟨e11, q12⟩ := Prod.mk.inj q11
                    obtain ⟨e12, q13⟩ := Prod.mk.inj q12
                    subst e0
                    subst e1
                    subst e2
                    subst e3
                    subst e4
                    subst e5
                    subst e6
                    subst e7
                    subst e8
                    subst e9
                    subst e10
                    subst e11
                    subst e12
                    subst q13
                    exact gRv hx hb hr hlocks hP hS dX5_readsItem_301
            · have hf := pif hf c_74
              refine lv_iload_n hx hb dX5_readsItem_240 rfl (lv_at hl 4 rfl) ?_
              refine lv_iconst (v := (3 : Int32)) hx hb dX5_readsItem_241 (by decide) ?_
              refine lv_icmp_ne (tgt := 263) hx hb dX5_readsItem_242 (by decide) (fun c_82 => ?_) (fun c_82 => ?_)
              · have hf := pif hf c_82
                refine lv_aload_n hx hb dX5_readsItem_263 rfl (lv_at hl 3 rfl) ?_
                obtain ⟨r_83, hc, hf⟩ := pb1 hf
                refine gCi (va_runV (As := []) (rest := []) hF (kX5_isWell l dC dI Z cC cI cZ cW a_o a_o_text a_o_need a_o_made a_o_skillTold a_o_placeTold a_o_skips a_o_wheelTold a_o_tunes a_o_s a_o_spare a_o_kept a_o_isKept a_o_makes a_o_works a_o_order _ o_thrown o_trace o_typed o_next_66 o_token_67 o_place_68 o_value_69 o_fault_70 o_trades o_people o_draftTrades o_draftPeople o_isShut o_falling  N r_83 hc) (cwV 0 hts gX5_readsItem_X5_isWell rfl rfl rfl (by decide +kernel) ⟨Nat.le_of_ble_eq_true rfl, Nat.le_of_ble_eq_true rfl⟩) (gPV (wc := [(a_o, .inr (5, [.int o_thrown, .long o_trace, .ref a_o_text, .int o_typed, .int o_next_66, .int o_token_67, .int o_place_68, .int o_value_69, .int o_fault_70, .ref a_o_need, .ref a_o_made, .ref a_o_skillTold, .ref a_o_placeTold, .ref a_o_skips, .ref a_o_wheelTold, .int o_trades, .int o_people, .int o_draftTrades, .int o_draftPeople, .int o_isShut, .ref a_o_tunes, .ref a_o_s, .ref a_o_spare, .ref a_o_kept, .ref a_o_isKept, .ref a_o_makes, .ref a_o_works, .ref a_o_order, .int o_falling]))]) hK hN hA hS hP hD [0] rfl rfl (q0 := 0) (ci := 5) rfl rfl rfl) rfl rfl hl.1 rfl (lv_room (Nat.le_of_ble_eq_true rfl)) dX5_readsItem_264 ⟨Nat.zero_le _, Nat.zero_le _⟩) hP hD hS hA [0] rfl rfl rfl (fun H locs hP hD hS => ?_)
                have hP : va_P (dC, dI) vwCl [(a_o, .inr (5, [.int o_thrown, .long o_trace, .ref a_o_text, .int o_typed, .int o_next_66, .int o_token_67, .int o_place_68, .int o_value_69, .int o_fault_70, .ref a_o_need, .ref a_o_made, .ref a_o_skillTold, .ref a_o_placeTold, .ref a_o_skips, .ref a_o_wheelTold, .int o_trades, .int o_people, .int o_draftTrades, .int o_draftPeople, .int o_isShut, .ref a_o_tunes, .ref a_o_s, .ref a_o_spare, .ref a_o_kept, .ref a_o_isKept, .ref a_o_makes, .ref a_o_works, .ref a_o_order, .int o_falling])), (a_o_text, .inl (cI, 400, .inl o_text)), (a_o_need, .inl (cI, 12, .inl o_need)), (a_o_made, .inl (cI, 12, .inl o_made)), (a_o_skillTold, .inl (cI, 72, .inl o_skillTold)), (a_o_placeTold, .inl (cI, 12, .inl o_placeTold)), (a_o_skips, .inl (cI, 12, .inl o_skips)), (a_o_wheelTold, .inl (cI, 12, .inl o_wheelTold))] H := hP
                have hD : va_D A [(a_o, .inr (5, [.int o_thrown, .long o_trace, .ref a_o_text, .int o_typed, .int o_next_66, .int o_token_67, .int o_place_68, .int o_value_69, .int o_fault_70, .ref a_o_need, .ref a_o_made, .ref a_o_skillTold, .ref a_o_placeTold, .ref a_o_skips, .ref a_o_wheelTold, .int o_trades, .int o_people, .int o_draftTrades, .int o_draftPeople, .int o_isShut, .ref a_o_tunes, .ref a_o_s, .ref a_o_spare, .ref a_o_kept, .ref a_o_isKept, .ref a_o_makes, .ref a_o_works, .ref a_o_order, .int o_falling])), (a_o_text, .inl (cI, 400, .inl o_text)), (a_o_need, .inl (cI, 12, .inl o_need)), (a_o_made, .inl (cI, 12, .inl o_made)), (a_o_skillTold, .inl (cI, 72, .inl o_skillTold)), (a_o_placeTold, .inl (cI, 12, .inl o_placeTold)), (a_o_skips, .inl (cI, 12, .inl o_skips)), (a_o_wheelTold, .inl (cI, 12, .inl o_wheelTold))] := hD
                refine lv_if_eq (tgt := 280) hx hb dX5_readsItem_267 (by decide) (fun c_84 => ?_) (fun c_84 => ?_)
                · have hf := pit hf c_84
                  refine lv_aload_n hx hb dX5_readsItem_280 rfl (lv_at hl 3 rfl) ?_
                  refine lv_aload_n hx hb dX5_readsItem_281 rfl (lv_at hl 3 rfl) ?_
                  refine va_get (D := (dC, dI)) (ci := 5) (v := .int o_isShut) (C := RX5) (T := TX5) (N := 29) hx hb hts uX5_readsItem_X5 hown hK hP 0 rfl rfl 19 (by decide) (hts _ mX5_readsItem_2) (fun _ h9 => h9) rfl dX5_readsItem_282 ?_
                  refine lv_if_ne (tgt := 293) hx hb dX5_readsItem_285 (by decide) (fun c_85 => ?_) (fun c_85 => ?_)
                  · have hf := pif hf c_85
                    refine lv_iconst (v := (1 : Int32)) hx hb dX5_readsItem_293 (by decide) ?_
                    refine lv_goto (tgt := 298) hx hb dX5_readsItem_294 (by decide) ?_
                    refine va_put (D := (dC, dI)) (ci := 5) (v := .int (1 : Int32)) (ty := .boolean) (C := RX5) (T := TX5) (N := 29) hx hb hts uX5_readsItem_X5 tyX5 tyX5_ok nmX5 hown hK hP hD hS 0 rfl rfl 19 (by decide) (hts _ mX5_readsItem_2) (fun _ h9 => h9) rfl (by decide +kernel) rfl rfl (Nat.le_of_ble_eq_true rfl) dX5_readsItem_298 (fun H locs hP hD hS => ?_)
                    have hP : va_P (dC, dI) vwCl [(a_o, .inr (5, [.int o_thrown, .long o_trace, .ref a_o_text, .int o_typed, .int o_next_66, .int o_token_67, .int o_place_68, .int o_value_69, .int o_fault_70, .ref a_o_need, .ref a_o_made, .ref a_o_skillTold, .ref a_o_placeTold, .ref a_o_skips, .ref a_o_wheelTold, .int o_trades, .int o_people, .int o_draftTrades, .int o_draftPeople, .int (1 : Int32), .ref a_o_tunes, .ref a_o_s, .ref a_o_spare, .ref a_o_kept, .ref a_o_isKept, .ref a_o_makes, .ref a_o_works, .ref a_o_order, .int o_falling])), (a_o_text, .inl (cI, 400, .inl o_text)), (a_o_need, .inl (cI, 12, .inl o_need)), (a_o_made, .inl (cI, 12, .inl o_made)), (a_o_skillTold, .inl (cI, 72, .inl o_skillTold)), (a_o_placeTold, .inl (cI, 12, .inl o_placeTold)), (a_o_skips, .inl (cI, 12, .inl o_skips)), (a_o_wheelTold, .inl (cI, 12, .inl o_wheelTold))] H := hP
                    have hD : va_D A [(a_o, .inr (5, [.int o_thrown, .long o_trace, .ref a_o_text, .int o_typed, .int o_next_66, .int o_token_67, .int o_place_68, .int o_value_69, .int o_fault_70, .ref a_o_need, .ref a_o_made, .ref a_o_skillTold, .ref a_o_placeTold, .ref a_o_skips, .ref a_o_wheelTold, .int o_trades, .int o_people, .int o_draftTrades, .int o_draftPeople, .int (1 : Int32), .ref a_o_tunes, .ref a_o_s, .ref a_o_spare, .ref a_o_kept, .ref a_o_isKept, .ref a_o_makes, .ref a_o_works, .ref a_o_order, .int o_falling])), (a_o_text, .inl (cI, 400, .inl o_text)), (a_o_need, .inl (cI, 12, .inl o_need)), (a_o_made, .inl (cI, 12, .inl o_made)), (a_o_skillTold, .inl (cI, 72, .inl o_skillTold)), (a_o_placeTold, .inl (cI, 12, .inl o_placeTold)), (a_o_skips, .inl (cI, 12, .inl o_skips)), (a_o_wheelTold, .inl (cI, 12, .inl o_wheelTold))] := hD
                    have q0 := Option.some.inj hf
                    obtain ⟨e0, q1⟩ := Prod.mk.inj q0
                    obtain ⟨e1, q2⟩ := Prod.mk.inj q1
                    obtain ⟨e2, q3⟩ := Prod.mk.inj q2
                    obtain ⟨e3, q4⟩ := Prod.mk.inj q3
                    obtain ⟨e4, q5⟩ := Prod.mk.inj q4
                    obtain ⟨e5, q6⟩ := Prod.mk.inj q5
                    obtain ⟨e6, q7⟩ := Prod.mk.inj q6
                    obtain ⟨e7, q8⟩ := Prod.mk.inj q7
                    obtain ⟨e8, q9⟩ := Prod.mk.inj q8
                    obtain ⟨e9, q10⟩ := Prod.mk.inj q9
                    obtain ⟨e10, q11⟩ := Prod.mk.inj q10
                    obtain ⟨e11, q12⟩ := Prod.mk.inj q11
                    obtain ⟨e12, q13⟩ := Prod.mk.inj q12
                    subst e0
                    subst e1
                    subst e2
                    subst e3
                    subst e4
                    subst e5
                    subst e6
                    subst e7
                    subst e8
                    subst e9
                    subst e10
                    subst e11
                    subst e12
                    subst q13
                    exact gRv hx hb hr hlocks hP hS dX5_readsItem_301
                  · have hf := pit hf c_85
                    refine lv_iload_n hx hb dX5_readsItem_288 rfl (lv_at hl 4 rfl) ?_
                    refine lv_iconst (v := (1 : Int32)) hx hb dX5_readsItem_289 (by decide) ?_
                    refine lv_icmp_le (tgt := 297) hx hb dX5_readsItem_290 (by decide) (fun c_86 => ?_) (fun c_86 => ?_)
                    · have hf := pit hf c_86
                      refine lv_iconst (v := (0 : Int32)) hx hb dX5_readsItem_297 (by decide) ?_
                      refine va_put (D := (dC, dI)) (ci := 5) (v := .int (0 : Int32)) (ty := .boolean) (C := RX5) (T := TX5) (N := 29) hx hb hts uX5_readsItem_X5 tyX5 tyX5_ok nmX5 hown hK hP hD hS 0 rfl rfl 19 (by decide) (hts _ mX5_readsItem_2) (fun _ h9 => h9) rfl (by decide +kernel) rfl rfl (Nat.le_of_ble_eq_true rfl) dX5_readsItem_298 (fun H locs hP hD hS => ?_)
                      have hP : va_P (dC, dI) vwCl [(a_o, .inr (5, [.int o_thrown, .long o_trace, .ref a_o_text, .int o_typed, .int o_next_66, .int o_token_67, .int o_place_68, .int o_value_69, .int o_fault_70, .ref a_o_need, .ref a_o_made, .ref a_o_skillTold, .ref a_o_placeTold, .ref a_o_skips, .ref a_o_wheelTold, .int o_trades, .int o_people, .int o_draftTrades, .int o_draftPeople, .int (0 : Int32), .ref a_o_tunes, .ref a_o_s, .ref a_o_spare, .ref a_o_kept, .ref a_o_isKept, .ref a_o_makes, .ref a_o_works, .ref a_o_order, .int o_falling])), (a_o_text, .inl (cI, 400, .inl o_text)), (a_o_need, .inl (cI, 12, .inl o_need)), (a_o_made, .inl (cI, 12, .inl o_made)), (a_o_skillTold, .inl (cI, 72, .inl o_skillTold)), (a_o_placeTold, .inl (cI, 12, .inl o_placeTold)), (a_o_skips, .inl (cI, 12, .inl o_skips)), (a_o_wheelTold, .inl (cI, 12, .inl o_wheelTold))] H := hP
                      have hD : va_D A [(a_o, .inr (5, [.int o_thrown, .long o_trace, .ref a_o_text, .int o_typed, .int o_next_66, .int o_token_67, .int o_place_68, .int o_value_69, .int o_fault_70, .ref a_o_need, .ref a_o_made, .ref a_o_skillTold, .ref a_o_placeTold, .ref a_o_skips, .ref a_o_wheelTold, .int o_trades, .int o_people, .int o_draftTrades, .int o_draftPeople, .int (0 : Int32), .ref a_o_tunes, .ref a_o_s, .ref a_o_spare, .ref a_o_kept, .ref a_o_isKept, .ref a_o_makes, .ref a_o_works, .ref a_o_order, .int o_falling])), (a_o_text, .inl (cI, 400, .inl o_text)), (a_o_need, .inl (cI, 12, .inl o_need)), (a_o_made, .inl (cI, 12, .inl o_made)), (a_o_skillTold, .inl (cI, 72, .inl o_skillTold)), (a_o_placeTold, .inl (cI, 12, .inl o_placeTold)), (a_o_skips, .inl (cI, 12, .inl o_skips)), (a_o_wheelTold, .inl (cI, 12, .inl o_wheelTold))] := hD
                      have q0 := Option.some.inj hf
                      obtain ⟨e0, q1⟩ := Prod.mk.inj q0
                      obtain ⟨e1, q2⟩ := Prod.mk.inj q1
                      obtain ⟨e2, q3⟩ := Prod.mk.inj q2
                      obtain ⟨e3, q4⟩ := Prod.mk.inj q3
                      obtain ⟨e4, q5⟩ := Prod.mk.inj q4
                      obtain ⟨e5, q6⟩ := Prod.mk.inj q5
                      obtain ⟨e6, q7⟩ := Prod.mk.inj q6
                      obtain ⟨e7, q8⟩ := Prod.mk.inj q7
                      obtain ⟨e8, q9⟩ := Prod.mk.inj q8
                      obtain ⟨e9, q10⟩ := Prod.mk.inj q9
                      obtain ⟨e10, q11⟩ := Prod.mk.inj q10
                      obtain ⟨e11, q12⟩ := Prod.mk.inj q11
                      obtain ⟨e12, q13⟩ := Prod.mk.inj q12
                      subst e0
                      subst e1
                      subst e2
                      subst e3
                      subst e4
                      subst e5
                      subst e6
                      subst e7
                      subst e8
                      subst e9
                      subst e10
                      subst e11
                      subst e12
                      subst q13
                      exact gRv hx hb hr hlocks hP hS dX5_readsItem_301
                    · have hf := pif hf c_86
                      refine lv_iconst (v := (1 : Int32)) hx hb dX5_readsItem_293 (by decide) ?_
                      refine lv_goto (tgt := 298) hx hb dX5_readsItem_294 (by decide) ?_
                      refine va_put (D := (dC, dI)) (ci := 5) (v := .int (1 : Int32)) (ty := .boolean) (C := RX5) (T := TX5) (N := 29) hx hb hts uX5_readsItem_X5 tyX5 tyX5_ok nmX5 hown hK hP hD hS 0 rfl rfl 19 (by decide) (hts _ mX5_readsItem_2) (fun _ h9 => h9) rfl (by decide +kernel) rfl rfl (Nat.le_of_ble_eq_true rfl) dX5_readsItem_298 (fun H locs hP hD hS => ?_)
                      have hP : va_P (dC, dI) vwCl [(a_o, .inr (5, [.int o_thrown, .long o_trace, .ref a_o_text, .int o_typed, .int o_next_66, .int o_token_67, .int o_place_68, .int o_value_69, .int o_fault_70, .ref a_o_need, .ref a_o_made, .ref a_o_skillTold, .ref a_o_placeTold, .ref a_o_skips, .ref a_o_wheelTold, .int o_trades, .int o_people, .int o_draftTrades, .int o_draftPeople, .int (1 : Int32), .ref a_o_tunes, .ref a_o_s, .ref a_o_spare, .ref a_o_kept, .ref a_o_isKept, .ref a_o_makes, .ref a_o_works, .ref a_o_order, .int o_falling])), (a_o_text, .inl (cI, 400, .inl o_text)), (a_o_need, .inl (cI, 12, .inl o_need)), (a_o_made, .inl (cI, 12, .inl o_made)), (a_o_skillTold, .inl (cI, 72, .inl o_skillTold)), (a_o_placeTold, .inl (cI, 12, .inl o_placeTold)), (a_o_skips, .inl (cI, 12, .inl o_skips)), (a_o_wheelTold, .inl (cI, 12, .inl o_wheelTold))] H := hP
                      have hD : va_D A [(a_o, .inr (5, [.int o_thrown, .long o_trace, .ref a_o_text, .int o_typed, .int o_next_66, .int o_token_67, .int o_place_68, .int o_value_69, .int o_fault_70, .ref a_o_need, .ref a_o_made, .ref a_o_skillTold, .ref a_o_placeTold, .ref a_o_skips, .ref a_o_wheelTold, .int o_trades, .int o_people, .int o_draftTrades, .int o_draftPeople, .int (1 : Int32), .ref a_o_tunes, .ref a_o_s, .ref a_o_spare, .ref a_o_kept, .ref a_o_isKept, .ref a_o_makes, .ref a_o_works, .ref a_o_order, .int o_falling])), (a_o_text, .inl (cI, 400, .inl o_text)), (a_o_need, .inl (cI, 12, .inl o_need)), (a_o_made, .inl (cI, 12, .inl o_made)), (a_o_skillTold, .inl (cI, 72, .inl o_skillTold)), (a_o_placeTold, .inl (cI, 12, .inl o_placeTold)), (a_o_skips, .inl (cI, 12, .inl o_skips)), (a_o_wheelTold, .inl (cI, 12, .inl o_wheelTold))] := hD
                      have q0 := Option.some.inj hf
                      obtain ⟨e0, q1⟩ := Prod.mk.inj q0
                      obtain ⟨e1, q2⟩ := Prod.mk.inj q1
                      obtain ⟨e2, q3⟩ := Prod.mk.inj q2
                      obtain ⟨e3, q4⟩ := Prod.mk.inj q3
                      obtain ⟨e4, q5⟩ := Prod.mk.inj q4
                      obtain ⟨e5, q6⟩ := Prod.mk.inj q5
                      obtain ⟨e6, q7⟩ := Prod.mk.inj q6
                      obtain ⟨e7, q8⟩ := Prod.mk.inj q7
                      obtain ⟨e8, q9⟩ := Prod.mk.inj q8
                      obtain ⟨e9, q10⟩ := Prod.mk.inj q9
                      obtain ⟨e10, q11⟩ := Prod.mk.inj q10
                      obtain ⟨e11, q12⟩ := Prod.mk.inj q11
                      obtain ⟨e12, q13⟩ := Prod.mk.inj q12
                      subst e0
                      subst e1
                      subst e2
                      subst e3
                      subst e4
                      subst e5
                      subst e6
                      subst e7
                      subst e8
                      subst e9
                      subst e10
                      subst e11
                      subst e12
                      subst q13
                      exact gRv hx hb hr hlocks hP hS dX5_readsItem_301
                · have hf := pif hf c_84
                  refine lv_aload_n hx hb dX5_readsItem_270 rfl (lv_at hl 3 rfl) ?_
                  refine va_get (D := (dC, dI)) (ci := 5) (v := .ref a_o_placeTold) (C := RX5) (T := TX5) (N := 29) hx hb hts uX5_readsItem_X5 hown hK hP 0 rfl rfl 12 (by decide) (hts _ mX5_readsItem_3) (fun _ h9 => h9) rfl dX5_readsItem_271 ?_
                  refine lv_bipush (v := (6 : Int32)) hx hb dX5_readsItem_274 (by decide) ?_
                  refine lv_iload_n hx hb dX5_readsItem_276 rfl (lv_at hl 2 rfl) ?_
                  refine lv_iadd hx hb dX5_readsItem_277 ?_
                  refine lv_iload_n hx hb dX5_readsItem_278 rfl (lv_at hl 1 rfl) ?_
                  obtain ⟨h_87, hf⟩ := pgd hf
                  refine va_iast hx hb hK hP hD hS 5 1 rfl rfl h_87 dX5_readsItem_279 (fun H locs hP hD hS => ?_)
                  have hP : va_P (dC, dI) vwCl [(a_o, .inr (5, [.int o_thrown, .long o_trace, .ref a_o_text, .int o_typed, .int o_next_66, .int o_token_67, .int o_place_68, .int o_value_69, .int o_fault_70, .ref a_o_need, .ref a_o_made, .ref a_o_skillTold, .ref a_o_placeTold, .ref a_o_skips, .ref a_o_wheelTold, .int o_trades, .int o_people, .int o_draftTrades, .int o_draftPeople, .int o_isShut, .ref a_o_tunes, .ref a_o_s, .ref a_o_spare, .ref a_o_kept, .ref a_o_isKept, .ref a_o_makes, .ref a_o_works, .ref a_o_order, .int o_falling])), (a_o_text, .inl (cI, 400, .inl o_text)), (a_o_need, .inl (cI, 12, .inl o_need)), (a_o_made, .inl (cI, 12, .inl o_made)), (a_o_skillTold, .inl (cI, 72, .inl o_skillTold)), (a_o_placeTold, .inl (cI, 12, .inl (upd o_placeTold ((6 : Int32) + r_4).toNatClampNeg r_10))), (a_o_skips, .inl (cI, 12, .inl o_skips)), (a_o_wheelTold, .inl (cI, 12, .inl o_wheelTold))] H := hP
                  have hD : va_D A [(a_o, .inr (5, [.int o_thrown, .long o_trace, .ref a_o_text, .int o_typed, .int o_next_66, .int o_token_67, .int o_place_68, .int o_value_69, .int o_fault_70, .ref a_o_need, .ref a_o_made, .ref a_o_skillTold, .ref a_o_placeTold, .ref a_o_skips, .ref a_o_wheelTold, .int o_trades, .int o_people, .int o_draftTrades, .int o_draftPeople, .int o_isShut, .ref a_o_tunes, .ref a_o_s, .ref a_o_spare, .ref a_o_kept, .ref a_o_isKept, .ref a_o_makes, .ref a_o_works, .ref a_o_order, .int o_falling])), (a_o_text, .inl (cI, 400, .inl o_text)), (a_o_need, .inl (cI, 12, .inl o_need)), (a_o_made, .inl (cI, 12, .inl o_made)), (a_o_skillTold, .inl (cI, 72, .inl o_skillTold)), (a_o_placeTold, .inl (cI, 12, .inl (upd o_placeTold ((6 : Int32) + r_4).toNatClampNeg r_10))), (a_o_skips, .inl (cI, 12, .inl o_skips)), (a_o_wheelTold, .inl (cI, 12, .inl o_wheelTold))] := hD
                  refine lv_aload_n hx hb dX5_readsItem_280 rfl (lv_at hl 3 rfl) ?_
                  refine lv_aload_n hx hb dX5_readsItem_281 rfl (lv_at hl 3 rfl) ?_
                  refine va_get (D := (dC, dI)) (ci := 5) (v := .int o_isShut) (C := RX5) (T := TX5) (N := 29) hx hb hts uX5_readsItem_X5 hown hK hP 0 rfl rfl 19 (by decide) (hts _ mX5_readsItem_2) (fun _ h9 => h9) rfl dX5_readsItem_282 ?_
                  refine lv_if_ne (tgt := 293) hx hb dX5_readsItem_285 (by decide) (fun c_88 => ?_) (fun c_88 => ?_)
                  · have hf := pif hf c_88
                    refine lv_iconst (v := (1 : Int32)) hx hb dX5_readsItem_293 (by decide) ?_
                    refine lv_goto (tgt := 298) hx hb dX5_readsItem_294 (by decide) ?_
                    refine va_put (D := (dC, dI)) (ci := 5) (v := .int (1 : Int32)) (ty := .boolean) (C := RX5) (T := TX5) (N := 29) hx hb hts uX5_readsItem_X5 tyX5 tyX5_ok nmX5 hown hK hP hD hS 0 rfl rfl 19 (by decide) (hts _ mX5_readsItem_2) (fun _ h9 => h9) rfl (by decide +kernel) rfl rfl (Nat.le_of_ble_eq_true rfl) dX5_readsItem_298 (fun H locs hP hD hS => ?_)
                    have hP : va_P (dC, dI) vwCl [(a_o, .inr (5, [.int o_thrown, .long o_trace, .ref a_o_text, .int o_typed, .int o_next_66, .int o_token_67, .int o_place_68, .int o_value_69, .int o_fault_70, .ref a_o_need, .ref a_o_made, .ref a_o_skillTold, .ref a_o_placeTold, .ref a_o_skips, .ref a_o_wheelTold, .int o_trades, .int o_people, .int o_draftTrades, .int o_draftPeople, .int (1 : Int32), .ref a_o_tunes, .ref a_o_s, .ref a_o_spare, .ref a_o_kept, .ref a_o_isKept, .ref a_o_makes, .ref a_o_works, .ref a_o_order, .int o_falling])), (a_o_text, .inl (cI, 400, .inl o_text)), (a_o_need, .inl (cI, 12, .inl o_need)), (a_o_made, .inl (cI, 12, .inl o_made)), (a_o_skillTold, .inl (cI, 72, .inl o_skillTold)), (a_o_placeTold, .inl (cI, 12, .inl (upd o_placeTold ((6 : Int32) + r_4).toNatClampNeg r_10))), (a_o_skips, .inl (cI, 12, .inl o_skips)), (a_o_wheelTold, .inl (cI, 12, .inl o_wheelTold))] H := hP
                    have hD : va_D A [(a_o, .inr (5, [.int o_thrown, .long o_trace, .ref a_o_text, .int o_typed, .int o_next_66, .int o_token_67, .int o_place_68, .int o_value_69, .int o_fault_70, .ref a_o_need, .ref a_o_made, .ref a_o_skillTold, .ref a_o_placeTold, .ref a_o_skips, .ref a_o_wheelTold, .int o_trades, .int o_people, .int o_draftTrades, .int o_draftPeople, .int (1 : Int32), .ref a_o_tunes, .ref a_o_s, .ref a_o_spare, .ref a_o_kept, .ref a_o_isKept, .ref a_o_makes, .ref a_o_works, .ref a_o_order, .int o_falling])), (a_o_text, .inl (cI, 400, .inl o_text)), (a_o_need, .inl (cI, 12, .inl o_need)), (a_o_made, .inl (cI, 12, .inl o_made)), (a_o_skillTold, .inl (cI, 72, .inl o_skillTold)), (a_o_placeTold, .inl (cI, 12, .inl (upd o_placeTold ((6 : Int32) + r_4).toNatClampNeg r_10))), (a_o_skips, .inl (cI, 12, .inl o_skips)), (a_o_wheelTold, .inl (cI, 12, .inl o_wheelTold))] := hD
                    have q0 := Option.some.inj hf
                    obtain ⟨e0, q1⟩ := Prod.mk.inj q0
                    obtain ⟨e1, q2⟩ := Prod.mk.inj q1
                    obtain ⟨e2, q3⟩ := Prod.mk.inj q2
                    obtain ⟨e3, q4⟩ := Prod.mk.inj q3
                    obtain ⟨e4, q5⟩ := Prod.mk.inj q4
                    obtain ⟨e5, q6⟩ := Prod.mk.inj q5
                    obtain ⟨e6, q7⟩ := Prod.mk.inj q6
                    obtain ⟨e7, q8⟩ := Prod.mk.inj q7
                    obtain ⟨e8, q9⟩ := Prod.mk.inj q8
                    obtain ⟨e9, q10⟩ := Prod.mk.inj q9
                    obtain ⟨e10, q11⟩ := Prod.mk.inj q10
                    obtain ⟨e11, q12⟩ := Prod.mk.inj q11
                    obtain ⟨e12, q13⟩ := Prod.mk.inj q12
                    subst e0
                    subst e1
                    subst e2
                    subst e3
                    subst e4
                    subst e5
                    subst e6
                    subst e7
                    subst e8
                    subst e9
                    subst e10
                    subst e11
                    subst e12
                    subst q13
                    exact gRv hx hb hr hlocks hP hS dX5_readsItem_301
                  · have hf := pit hf c_88
                    refine lv_iload_n hx hb dX5_readsItem_288 rfl (lv_at hl 4 rfl) ?_
                    refine lv_iconst (v := (1 : Int32)) hx hb dX5_readsItem_289 (by decide) ?_
                    refine lv_icmp_le (tgt := 297) hx hb dX5_readsItem_290 (by decide) (fun c_89 => ?_) (fun c_89 => ?_)
                    · have hf := pit hf c_89
                      refine lv_iconst (v := (0 : Int32)) hx hb dX5_readsItem_297 (by decide) ?_
                      refine va_put (D := (dC, dI)) (ci := 5) (v := .int (0 : Int32)) (ty := .boolean) (C := RX5) (T := TX5) (N := 29) hx hb hts uX5_readsItem_X5 tyX5 tyX5_ok nmX5 hown hK hP hD hS 0 rfl rfl 19 (by decide) (hts _ mX5_readsItem_2) (fun _ h9 => h9) rfl (by decide +kernel) rfl rfl (Nat.le_of_ble_eq_true rfl) dX5_readsItem_298 (fun H locs hP hD hS => ?_)
                      have hP : va_P (dC, dI) vwCl [(a_o, .inr (5, [.int o_thrown, .long o_trace, .ref a_o_text, .int o_typed, .int o_next_66, .int o_token_67, .int o_place_68, .int o_value_69, .int o_fault_70, .ref a_o_need, .ref a_o_made, .ref a_o_skillTold, .ref a_o_placeTold, .ref a_o_skips, .ref a_o_wheelTold, .int o_trades, .int o_people, .int o_draftTrades, .int o_draftPeople, .int (0 : Int32), .ref a_o_tunes, .ref a_o_s, .ref a_o_spare, .ref a_o_kept, .ref a_o_isKept, .ref a_o_makes, .ref a_o_works, .ref a_o_order, .int o_falling])), (a_o_text, .inl (cI, 400, .inl o_text)), (a_o_need, .inl (cI, 12, .inl o_need)), (a_o_made, .inl (cI, 12, .inl o_made)), (a_o_skillTold, .inl (cI, 72, .inl o_skillTold)), (a_o_placeTold, .inl (cI, 12, .inl (upd o_placeTold ((6 : Int32) + r_4).toNatClampNeg r_10))), (a_o_skips, .inl (cI, 12, .inl o_skips)), (a_o_wheelTold, .inl (cI, 12, .inl o_wheelTold))] H := hP
                      have hD : va_D A [(a_o, .inr (5, [.int o_thrown, .long o_trace, .ref a_o_text, .int o_typed, .int o_next_66, .int o_token_67, .int o_place_68, .int o_value_69, .int o_fault_70, .ref a_o_need, .ref a_o_made, .ref a_o_skillTold, .ref a_o_placeTold, .ref a_o_skips, .ref a_o_wheelTold, .int o_trades, .int o_people, .int o_draftTrades, .int o_draftPeople, .int (0 : Int32), .ref a_o_tunes, .ref a_o_s, .ref a_o_spare, .ref a_o_kept, .ref a_o_isKept, .ref a_o_makes, .ref a_o_works, .ref a_o_order, .int o_falling])), (a_o_text, .inl (cI, 400, .inl o_text)), (a_o_need, .inl (cI, 12, .inl o_need)), (a_o_made, .inl (cI, 12, .inl o_made)), (a_o_skillTold, .inl (cI, 72, .inl o_skillTold)), (a_o_placeTold, .inl (cI, 12, .inl (upd o_placeTold ((6 : Int32) + r_4).toNatClampNeg r_10))), (a_o_skips, .inl (cI, 12, .inl o_skips)), (a_o_wheelTold, .inl (cI, 12, .inl o_wheelTold))] := hD
                      have q0 := Option.some.inj hf
                      obtain ⟨e0, q1⟩ := Prod.mk.inj q0
                      obtain ⟨e1, q2⟩ := Prod.mk.inj q1
                      obtain ⟨e2, q3⟩ := Prod.mk.inj q2
                      obtain ⟨e3, q4⟩ := Prod.mk.inj q3
                      obtain ⟨e4, q5⟩ := Prod.mk.inj q4
                      obtain ⟨e5, q6⟩ := Prod.mk.inj q5
                      obtain ⟨e6, q7⟩ := Prod.mk.inj q6
                      obtain ⟨e7, q8⟩ := Prod.mk.inj q7
                      obtain ⟨e8, q9⟩ := Prod.mk.inj q8
                      obtain ⟨e9, q10⟩ := Prod.mk.inj q9
                      obtain ⟨e10, q11⟩ := Prod.mk.inj q10
                      obtain ⟨e11, q12⟩ := Prod.mk.inj q11
                      obtain ⟨e12, q13⟩ := Prod.mk.inj q12
                      subst e0
                      subst e1
                      subst e2
                      subst e3
                      subst e4
                      subst e5
                      subst e6
                      subst e7
                      subst e8
                      subst e9
                      subst e10
                      subst e11
                      subst e12
                      subst q13
                      exact gRv hx hb hr hlocks hP hS dX5_readsItem_301
                    · have hf := pif hf c_89
                      refine lv_iconst (v := (1 : Int32)) hx hb dX5_readsItem_293 (by decide) ?_
                      refine lv_goto (tgt := 298) hx hb dX5_readsItem_294 (by decide) ?_
                      refine va_put (D := (dC, dI)) (ci := 5) (v := .int (1 : Int32)) (ty := .boolean) (C := RX5) (T := TX5) (N := 29) hx hb hts uX5_readsItem_X5 tyX5 tyX5_ok nmX5 hown hK hP hD hS 0 rfl rfl 19 (by decide) (hts _ mX5_readsItem_2) (fun _ h9 => h9) rfl (by decide +kernel) rfl rfl (Nat.le_of_ble_eq_true rfl) dX5_readsItem_298 (fun H locs hP hD hS => ?_)
                      have hP : va_P (dC, dI) vwCl [(a_o, .inr (5, [.int o_thrown, .long o_trace, .ref a_o_text, .int o_typed, .int o_next_66, .int o_token_67, .int o_place_68, .int o_value_69, .int o_fault_70, .ref a_o_need, .ref a_o_made, .ref a_o_skillTold, .ref a_o_placeTold, .ref a_o_skips, .ref a_o_wheelTold, .int o_trades, .int o_people, .int o_draftTrades, .int o_draftPeople, .int (1 : Int32), .ref a_o_tunes, .ref a_o_s, .ref a_o_spare, .ref a_o_kept, .ref a_o_isKept, .ref a_o_makes, .ref a_o_works, .ref a_o_order, .int o_falling])), (a_o_text, .inl (cI, 400, .inl o_text)), (a_o_need, .inl (cI, 12, .inl o_need)), (a_o_made, .inl (cI, 12, .inl o_made)), (a_o_skillTold, .inl (cI, 72, .inl o_skillTold)), (a_o_placeTold, .inl (cI, 12, .inl (upd o_placeTold ((6 : Int32) + r_4).toNatClampNeg r_10))), (a_o_skips, .inl (cI, 12, .inl o_skips)), (a_o_wheelTold, .inl (cI, 12, .inl o_wheelTold))] H := hP
                      have hD : va_D A [(a_o, .inr (5, [.int o_thrown, .long o_trace, .ref a_o_text, .int o_typed, .int o_next_66, .int o_token_67, .int o_place_68, .int o_value_69, .int o_fault_70, .ref a_o_need, .ref a_o_made, .ref a_o_skillTold, .ref a_o_placeTold, .ref a_o_skips, .ref a_o_wheelTold, .int o_trades, .int o_people, .int o_draftTrades, .int o_draftPeople, .int (1 : Int32), .ref a_o_tunes, .ref a_o_s, .ref a_o_spare, .ref a_o_kept, .ref a_o_isKept, .ref a_o_makes, .ref a_o_works, .ref a_o_order, .int o_falling])), (a_o_text, .inl (cI, 400, .inl o_text)), (a_o_need, .inl (cI, 12, .inl o_need)), (a_o_made, .inl (cI, 12, .inl o_made)), (a_o_skillTold, .inl (cI, 72, .inl o_skillTold)), (a_o_placeTold, .inl (cI, 12, .inl (upd o_placeTold ((6 : Int32) + r_4).toNatClampNeg r_10))), (a_o_skips, .inl (cI, 12, .inl o_skips)), (a_o_wheelTold, .inl (cI, 12, .inl o_wheelTold))] := hD
                      have q0 := Option.some.inj hf
                      obtain ⟨e0, q1⟩ := Prod.mk.inj q0
                      obtain ⟨e1, q2⟩ := Prod.mk.inj q1
                      obtain ⟨e2, q3⟩ := Prod.mk.inj q2
                      obtain ⟨e3, q4⟩ := Prod.mk.inj q3
                      obtain ⟨e4, q5⟩ := Prod.mk.inj q4
                      obtain ⟨e5, q6⟩ := Prod.mk.inj q5
                      obtain ⟨e6, q7⟩ := Prod.mk.inj q6
                      obtain ⟨e7, q8⟩ := Prod.mk.inj q7
                      obtain ⟨e8, q9⟩ := Prod.mk.inj q8
                      obtain ⟨e9, q10⟩ := Prod.mk.inj q9
                      obtain ⟨e10, q11⟩ := Prod.mk.inj q10
                      obtain ⟨e11, q12⟩ := Prod.mk.inj q11
                      obtain ⟨e12, q13⟩ := Prod.mk.inj q12
                      subst e0
                      subst e1
                      subst e2
                      subst e3
                      subst e4
                      subst e5
                      subst e6
                      subst e7
                      subst e8
                      subst e9
                      subst e10
                      subst e11
                      subst e12
                      subst q13
                      exact gRv hx hb hr hlocks hP hS dX5_readsItem_301
              · have hf := pit hf c_82
                refine lv_aload_n hx hb dX5_readsItem_245 rfl (lv_at hl 3 rfl) ?_
                refine va_get (D := (dC, dI)) (ci := 5) (v := .ref a_o_skips) (C := RX5) (T := TX5) (N := 29) hx hb hts uX5_readsItem_X5 hown hK hP 0 rfl rfl 13 (by decide) (hts _ mX5_readsItem_4) (fun _ h9 => h9) rfl dX5_readsItem_246 ?_
                refine lv_bipush (v := (6 : Int32)) hx hb dX5_readsItem_249 (by decide) ?_
                refine lv_iload_n hx hb dX5_readsItem_251 rfl (lv_at hl 2 rfl) ?_
                refine lv_iadd hx hb dX5_readsItem_252 ?_
                refine lv_dup2_11 hx hb dX5_readsItem_253 rfl rfl ?_
                obtain ⟨h_90, hf⟩ := pgd hf
                refine va_iald hx hb hK hP 6 1 rfl rfl h_90 dX5_readsItem_254 ?_
                refine lv_iconst (v := (1 : Int32)) hx hb dX5_readsItem_255 (by decide) ?_
                refine lv_iload_n hx hb dX5_readsItem_256 rfl (lv_at hl 1 rfl) ?_
                refine lv_ishl hx hb dX5_readsItem_257 ?_
                refine lv_ior hx hb dX5_readsItem_258 ?_
                obtain ⟨h_91, hf⟩ := pgd hf
                refine va_iast hx hb hK hP hD hS 6 1 rfl rfl h_91 dX5_readsItem_259 (fun H locs hP hD hS => ?_)
                have hP : va_P (dC, dI) vwCl [(a_o, .inr (5, [.int o_thrown, .long o_trace, .ref a_o_text, .int o_typed, .int o_next_66, .int o_token_67, .int o_place_68, .int o_value_69, .int o_fault_70, .ref a_o_need, .ref a_o_made, .ref a_o_skillTold, .ref a_o_placeTold, .ref a_o_skips, .ref a_o_wheelTold, .int o_trades, .int o_people, .int o_draftTrades, .int o_draftPeople, .int o_isShut, .ref a_o_tunes, .ref a_o_s, .ref a_o_spare, .ref a_o_kept, .ref a_o_isKept, .ref a_o_makes, .ref a_o_works, .ref a_o_order, .int o_falling])), (a_o_text, .inl (cI, 400, .inl o_text)), (a_o_need, .inl (cI, 12, .inl o_need)), (a_o_made, .inl (cI, 12, .inl o_made)), (a_o_skillTold, .inl (cI, 72, .inl o_skillTold)), (a_o_placeTold, .inl (cI, 12, .inl o_placeTold)), (a_o_skips, .inl (cI, 12, .inl (upd o_skips ((6 : Int32) + r_4).toNatClampNeg ((o_skips ((6 : Int32) + r_4).toNatClampNeg) ||| ((1 : Int32) <<< (r_10 &&& 31)))))), (a_o_wheelTold, .inl (cI, 12, .inl o_wheelTold))] H := hP
                have hD : va_D A [(a_o, .inr (5, [.int o_thrown, .long o_trace, .ref a_o_text, .int o_typed, .int o_next_66, .int o_token_67, .int o_place_68, .int o_value_69, .int o_fault_70, .ref a_o_need, .ref a_o_made, .ref a_o_skillTold, .ref a_o_placeTold, .ref a_o_skips, .ref a_o_wheelTold, .int o_trades, .int o_people, .int o_draftTrades, .int o_draftPeople, .int o_isShut, .ref a_o_tunes, .ref a_o_s, .ref a_o_spare, .ref a_o_kept, .ref a_o_isKept, .ref a_o_makes, .ref a_o_works, .ref a_o_order, .int o_falling])), (a_o_text, .inl (cI, 400, .inl o_text)), (a_o_need, .inl (cI, 12, .inl o_need)), (a_o_made, .inl (cI, 12, .inl o_made)), (a_o_skillTold, .inl (cI, 72, .inl o_skillTold)), (a_o_placeTold, .inl (cI, 12, .inl o_placeTold)), (a_o_skips, .inl (cI, 12, .inl (upd o_skips ((6 : Int32) + r_4).toNatClampNeg ((o_skips ((6 : Int32) + r_4).toNatClampNeg) ||| ((1 : Int32) <<< (r_10 &&& 31)))))), (a_o_wheelTold, .inl (cI, 12, .inl o_wheelTold))] := hD
                refine lv_goto (tgt := 280) hx hb dX5_readsItem_260 (by decide) ?_
                refine lv_aload_n hx hb dX5_readsItem_280 rfl (lv_at hl 3 rfl) ?_
                refine lv_aload_n hx hb dX5_readsItem_281 rfl (lv_at hl 3 rfl) ?_
                refine va_get (D := (dC, dI)) (ci := 5) (v := .int o_isShut) (C := RX5) (T := TX5) (N := 29) hx hb hts uX5_readsItem_X5 hown hK hP 0 rfl rfl 19 (by decide) (hts _ mX5_readsItem_2) (fun _ h9 => h9) rfl dX5_readsItem_282 ?_
                refine lv_if_ne (tgt := 293) hx hb dX5_readsItem_285 (by decide) (fun c_92 => ?_) (fun c_92 => ?_)
                · have hf := pif hf c_92
                  refine lv_iconst (v := (1 : Int32)) hx hb dX5_readsItem_293 (by decide) ?_
                  refine lv_goto (tgt := 298) hx hb dX5_readsItem_294 (by decide) ?_
                  refine va_put (D := (dC, dI)) (ci := 5) (v := .int (1 : Int32)) (ty := .boolean) (C := RX5) (T := TX5) (N := 29) hx hb hts uX5_readsItem_X5 tyX5 tyX5_ok nmX5 hown hK hP hD hS 0 rfl rfl 19 (by decide) (hts _ mX5_readsItem_2) (fun _ h9 => h9) rfl (by decide +kernel) rfl rfl (Nat.le_of_ble_eq_true rfl) dX5_readsItem_298 (fun H locs hP hD hS => ?_)
                  have hP : va_P (dC, dI) vwCl [(a_o, .inr (5, [.int o_thrown, .long o_trace, .ref a_o_text, .int o_typed, .int o_next_66, .int o_token_67, .int o_place_68, .int o_value_69, .int o_fault_70, .ref a_o_need, .ref a_o_made, .ref a_o_skillTold, .ref a_o_placeTold, .ref a_o_skips, .ref a_o_wheelTold, .int o_trades, .int o_people, .int o_draftTrades, .int o_draftPeople, .int (1 : Int32), .ref a_o_tunes, .ref a_o_s, .ref a_o_spare, .ref a_o_kept, .ref a_o_isKept, .ref a_o_makes, .ref a_o_works, .ref a_o_order, .int o_falling])), (a_o_text, .inl (cI, 400, .inl o_text)), (a_o_need, .inl (cI, 12, .inl o_need)), (a_o_made, .inl (cI, 12, .inl o_made)), (a_o_skillTold, .inl (cI, 72, .inl o_skillTold)), (a_o_placeTold, .inl (cI, 12, .inl o_placeTold)), (a_o_skips, .inl (cI, 12, .inl (upd o_skips ((6 : Int32) + r_4).toNatClampNeg ((o_skips ((6 : Int32) + r_4).toNatClampNeg) ||| ((1 : Int32) <<< (r_10 &&& 31)))))), (a_o_wheelTold, .inl (cI, 12, .inl o_wheelTold))] H := hP
                  have hD : va_D A [(a_o, .inr (5, [.int o_thrown, .long o_trace, .ref a_o_text, .int o_typed, .int o_next_66, .int o_token_67, .int o_place_68, .int o_value_69, .int o_fault_70, .ref a_o_need, .ref a_o_made, .ref a_o_skillTold, .ref a_o_placeTold, .ref a_o_skips, .ref a_o_wheelTold, .int o_trades, .int o_people, .int o_draftTrades, .int o_draftPeople, .int (1 : Int32), .ref a_o_tunes, .ref a_o_s, .ref a_o_spare, .ref a_o_kept, .ref a_o_isKept, .ref a_o_makes, .ref a_o_works, .ref a_o_order, .int o_falling])), (a_o_text, .inl (cI, 400, .inl o_text)), (a_o_need, .inl (cI, 12, .inl o_need)), (a_o_made, .inl (cI, 12, .inl o_made)), (a_o_skillTold, .inl (cI, 72, .inl o_skillTold)), (a_o_placeTold, .inl (cI, 12, .inl o_placeTold)), (a_o_skips, .inl (cI, 12, .inl (upd o_skips ((6 : Int32) + r_4).toNatClampNeg ((o_skips ((6 : Int32) + r_4).toNatClampNeg) ||| ((1 : Int32) <<< (r_10 &&& 31)))))), (a_o_wheelTold, .inl (cI, 12, .inl o_wheelTold))] := hD
                  have q0 := Option.some.inj hf
                  obtain ⟨e0, q1⟩ := Prod.mk.inj q0
                  obtain ⟨e1, q2⟩ := Prod.mk.inj q1
                  obtain ⟨e2, q3⟩ := Prod.mk.inj q2
                  obtain ⟨e3, q4⟩ := Prod.mk.inj q3
                  obtain ⟨e4, q5⟩ := Prod.mk.inj q4
                  obtain ⟨e5, q6⟩ := Prod.mk.inj q5
                  obtain ⟨e6, q7⟩ := Prod.mk.inj q6
                  obtain ⟨e7, q8⟩ := Prod.mk.inj q7
                  obtain ⟨e8, q9⟩ := Prod.mk.inj q8
                  obtain ⟨e9, q10⟩ := Prod.mk.inj q9
                  obtain ⟨e10, q11⟩ := Prod.mk.inj q10
                  obtain ⟨e11, q12⟩ := Prod.mk.inj q11
                  obtain ⟨e12, q13⟩ := Prod.mk.inj q12
                  subst e0
                  subst e1
                  subst e2
                  subst e3
                  subst e4
                  subst e5
                  subst e6
                  subst e7
                  subst e8
                  subst e9
                  subst e10
                  subst e11
                  subst e12
                  subst q13
                  exact gRv hx hb hr hlocks hP hS dX5_readsItem_301
                · have hf := pit hf c_92
                  refine lv_iload_n hx hb dX5_readsItem_288 rfl (lv_at hl 4 rfl) ?_
                  refine lv_iconst (v := (1 : Int32)) hx hb dX5_readsItem_289 (by decide) ?_
                  refine lv_icmp_le (tgt := 297) hx hb dX5_readsItem_290 (by decide) (fun c_93 => ?_) (fun c_93 => ?_)
                  · have hf := pit hf c_93
                    refine lv_iconst (v := (0 : Int32)) hx hb dX5_readsItem_297 (by decide) ?_
                    refine va_put (D := (dC, dI)) (ci := 5) (v := .int (0 : Int32)) (ty := .boolean) (C := RX5) (T := TX5) (N := 29) hx hb hts uX5_readsItem_X5 tyX5 tyX5_ok nmX5 hown hK hP hD hS 0 rfl rfl 19 (by decide) (hts _ mX5_readsItem_2) (fun _ h9 => h9) rfl (by decide +kernel) rfl rfl (Nat.le_of_ble_eq_true rfl) dX5_readsItem_298 (fun H locs hP hD hS => ?_)
                    have hP : va_P (dC, dI) vwCl [(a_o, .inr (5, [.int o_thrown, .long o_trace, .ref a_o_text, .int o_typed, .int o_next_66, .int o_token_67, .int o_place_68, .int o_value_69, .int o_fault_70, .ref a_o_need, .ref a_o_made, .ref a_o_skillTold, .ref a_o_placeTold, .ref a_o_skips, .ref a_o_wheelTold, .int o_trades, .int o_people, .int o_draftTrades, .int o_draftPeople, .int (0 : Int32), .ref a_o_tunes, .ref a_o_s, .ref a_o_spare, .ref a_o_kept, .ref a_o_isKept, .ref a_o_makes, .ref a_o_works, .ref a_o_order, .int o_falling])), (a_o_text, .inl (cI, 400, .inl o_text)), (a_o_need, .inl (cI, 12, .inl o_need)), (a_o_made, .inl (cI, 12, .inl o_made)), (a_o_skillTold, .inl (cI, 72, .inl o_skillTold)), (a_o_placeTold, .inl (cI, 12, .inl o_placeTold)), (a_o_skips, .inl (cI, 12, .inl (upd o_skips ((6 : Int32) + r_4).toNatClampNeg ((o_skips ((6 : Int32) + r_4).toNatClampNeg) ||| ((1 : Int32) <<< (r_10 &&& 31)))))), (a_o_wheelTold, .inl (cI, 12, .inl o_wheelTold))] H := hP
                    have hD : va_D A [(a_o, .inr (5, [.int o_thrown, .long o_trace, .ref a_o_text, .int o_typed, .int o_next_66, .int o_token_67, .int o_place_68, .int o_value_69, .int o_fault_70, .ref a_o_need, .ref a_o_made, .ref a_o_skillTold, .ref a_o_placeTold, .ref a_o_skips, .ref a_o_wheelTold, .int o_trades, .int o_people, .int o_draftTrades, .int o_draftPeople, .int (0 : Int32), .ref a_o_tunes, .ref a_o_s, .ref a_o_spare, .ref a_o_kept, .ref a_o_isKept, .ref a_o_makes, .ref a_o_works, .ref a_o_order, .int o_falling])), (a_o_text, .inl (cI, 400, .inl o_text)), (a_o_need, .inl (cI, 12, .inl o_need)), (a_o_made, .inl (cI, 12, .inl o_made)), (a_o_skillTold, .inl (cI, 72, .inl o_skillTold)), (a_o_placeTold, .inl (cI, 12, .inl o_placeTold)), (a_o_skips, .inl (cI, 12, .inl (upd o_skips ((6 : Int32) + r_4).toNatClampNeg ((o_skips ((6 : Int32) + r_4).toNatClampNeg) ||| ((1 : Int32) <<< (r_10 &&& 31)))))), (a_o_wheelTold, .inl (cI, 12, .inl o_wheelTold))] := hD
                    have q0 := Option.some.inj hf
                    obtain ⟨e0, q1⟩ := Prod.mk.inj q0
                    obtain ⟨e1, q2⟩ := Prod.mk.inj q1
                    obtain ⟨e2, q3⟩ := Prod.mk.inj q2
                    obtain ⟨e3, q4⟩ := Prod.mk.inj q3
                    obtain ⟨e4, q5⟩ := Prod.mk.inj q4
                    obtain ⟨e5, q6⟩ := Prod.mk.inj q5
                    obtain ⟨e6, q7⟩ := Prod.mk.inj q6
                    obtain ⟨e7, q8⟩ := Prod.mk.inj q7
                    obtain ⟨e8, q9⟩ := Prod.mk.inj q8
                    obtain ⟨e9, q10⟩ := Prod.mk.inj q9
                    obtain ⟨e10, q11⟩ := Prod.mk.inj q10
                    obtain ⟨e11, q12⟩ := Prod.mk.inj q11
                    obtain ⟨e12, q13⟩ := Prod.mk.inj q12
                    subst e0
                    subst e1
                    subst e2
                    subst e3
                    subst e4
                    subst e5
                    subst e6
                    subst e7
                    subst e8
                    subst e9
                    subst e10
                    subst e11
                    subst e12
                    subst q13
                    exact gRv hx hb hr hlocks hP hS dX5_readsItem_301
                  · have hf := pif hf c_93
                    refine lv_iconst (v := (1 : Int32)) hx hb dX5_readsItem_293 (by decide) ?_
                    refine lv_goto (tgt := 298) hx hb dX5_readsItem_294 (by decide) ?_
                    refine va_put (D := (dC, dI)) (ci := 5) (v := .int (1 : Int32)) (ty := .boolean) (C := RX5) (T := TX5) (N := 29) hx hb hts uX5_readsItem_X5 tyX5 tyX5_ok nmX5 hown hK hP hD hS 0 rfl rfl 19 (by decide) (hts _ mX5_readsItem_2) (fun _ h9 => h9) rfl (by decide +kernel) rfl rfl (Nat.le_of_ble_eq_true rfl) dX5_readsItem_298 (fun H locs hP hD hS => ?_)
                    have hP : va_P (dC, dI) vwCl [(a_o, .inr (5, [.int o_thrown, .long o_trace, .ref a_o_text, .int o_typed, .int o_next_66, .int o_token_67, .int o_place_68, .int o_value_69, .int o_fault_70, .ref a_o_need, .ref a_o_made, .ref a_o_skillTold, .ref a_o_placeTold, .ref a_o_skips, .ref a_o_wheelTold, .int o_trades, .int o_people, .int o_draftTrades, .int o_draftPeople, .int (1 : Int32), .ref a_o_tunes, .ref a_o_s, .ref a_o_spare, .ref a_o_kept, .ref a_o_isKept, .ref a_o_makes, .ref a_o_works, .ref a_o_order, .int o_falling])), (a_o_text, .inl (cI, 400, .inl o_text)), (a_o_need, .inl (cI, 12, .inl o_need)), (a_o_made, .inl (cI, 12, .inl o_made)), (a_o_skillTold, .inl (cI, 72, .inl o_skillTold)), (a_o_placeTold, .inl (cI, 12, .inl o_placeTold)), (a_o_skips, .inl (cI, 12, .inl (upd o_skips ((6 : Int32) + r_4).toNatClampNeg ((o_skips ((6 : Int32) + r_4).toNatClampNeg) ||| ((1 : Int32) <<< (r_10 &&& 31)))))), (a_o_wheelTold, .inl (cI, 12, .inl o_wheelTold))] H := hP
                    have hD : va_D A [(a_o, .inr (5, [.int o_thrown, .long o_trace, .ref a_o_text, .int o_typed, .int o_next_66, .int o_token_67, .int o_place_68, .int o_value_69, .int o_fault_70, .ref a_o_need, .ref a_o_made, .ref a_o_skillTold, .ref a_o_placeTold, .ref a_o_skips, .ref a_o_wheelTold, .int o_trades, .int o_people, .int o_draftTrades, .int o_draftPeople, .int (1 : Int32), .ref a_o_tunes, .ref a_o_s, .ref a_o_spare, .ref a_o_kept, .ref a_o_isKept, .ref a_o_makes, .ref a_o_works, .ref a_o_order, .int o_falling])), (a_o_text, .inl (cI, 400, .inl o_text)), (a_o_need, .inl (cI, 12, .inl o_need)), (a_o_made, .inl (cI, 12, .inl o_made)), (a_o_skillTold, .inl (cI, 72, .inl o_skillTold)), (a_o_placeTold, .inl (cI, 12, .inl o_placeTold)), (a_o_skips, .inl (cI, 12, .inl (upd o_skips ((6 : Int32) + r_4).toNatClampNeg ((o_skips ((6 : Int32) + r_4).toNatClampNeg) ||| ((1 : Int32) <<< (r_10 &&& 31)))))), (a_o_wheelTold, .inl (cI, 12, .inl o_wheelTold))] := hD
                    have q0 := Option.some.inj hf
                    obtain ⟨e0, q1⟩ := Prod.mk.inj q0
                    obtain ⟨e1, q2⟩ := Prod.mk.inj q1
                    obtain ⟨e2, q3⟩ := Prod.mk.inj q2
                    obtain ⟨e3, q4⟩ := Prod.mk.inj q3
                    obtain ⟨e4, q5⟩ := Prod.mk.inj q4
                    obtain ⟨e5, q6⟩ := Prod.mk.inj q5
                    obtain ⟨e6, q7⟩ := Prod.mk.inj q6
                    obtain ⟨e7, q8⟩ := Prod.mk.inj q7
                    obtain ⟨e8, q9⟩ := Prod.mk.inj q8
                    obtain ⟨e9, q10⟩ := Prod.mk.inj q9
                    obtain ⟨e10, q11⟩ := Prod.mk.inj q10
                    obtain ⟨e11, q12⟩ := Prod.mk.inj q11
                    obtain ⟨e12, q13⟩ := Prod.mk.inj q12
                    subst e0
                    subst e1
                    subst e2
                    subst e3
                    subst e4
                    subst e5
                    subst e6
                    subst e7
                    subst e8
                    subst e9
                    subst e10
                    subst e11
                    subst e12
                    subst q13
                    exact gRv hx hb hr hlocks hP hS dX5_readsItem_301
          · have hf := pif hf c_72
            refine lv_iload_n hx hb dX5_readsItem_209 rfl (lv_at hl 4 rfl) ?_
            refine lv_iconst (v := (2 : Int32)) hx hb dX5_readsItem_210 (by decide) ?_
            refine lv_icmp_ne (tgt := 233) hx hb dX5_readsItem_211 (by decide) (fun c_94 => ?_) (fun c_94 => ?_)
            · have hf := pif hf c_94
              refine lv_aload_n hx hb dX5_readsItem_233 rfl (lv_at hl 3 rfl) ?_
              obtain ⟨r_95, hc, hf⟩ := pb1 hf
              refine gCi (va_runV (As := []) (rest := []) hF (kX5_isWell l dC dI Z cC cI cZ cW a_o a_o_text a_o_need a_o_made a_o_skillTold a_o_placeTold a_o_skips a_o_wheelTold a_o_tunes a_o_s a_o_spare a_o_kept a_o_isKept a_o_makes a_o_works a_o_order _ o_thrown o_trace o_typed o_next_66 o_token_67 o_place_68 o_value_69 o_fault_70 o_trades o_people o_draftTrades o_draftPeople o_isShut o_falling  N r_95 hc) (cwV 0 hts gX5_readsItem_X5_isWell rfl rfl rfl (by decide +kernel) ⟨Nat.le_of_ble_eq_true rfl, Nat.le_of_ble_eq_true rfl⟩) (gPV (wc := [(a_o, .inr (5, [.int o_thrown, .long o_trace, .ref a_o_text, .int o_typed, .int o_next_66, .int o_token_67, .int o_place_68, .int o_value_69, .int o_fault_70, .ref a_o_need, .ref a_o_made, .ref a_o_skillTold, .ref a_o_placeTold, .ref a_o_skips, .ref a_o_wheelTold, .int o_trades, .int o_people, .int o_draftTrades, .int o_draftPeople, .int o_isShut, .ref a_o_tunes, .ref a_o_s, .ref a_o_spare, .ref a_o_kept, .ref a_o_isKept, .ref a_o_makes, .ref a_o_works, .ref a_o_order, .int o_falling]))]) hK hN hA hS hP hD [0] rfl rfl (q0 := 0) (ci := 5) rfl rfl rfl) rfl rfl hl.1 rfl (lv_room (Nat.le_of_ble_eq_true rfl)) dX5_readsItem_234 ⟨Nat.zero_le _, Nat.zero_le _⟩) hP hD hS hA [0] rfl rfl rfl (fun H locs hP hD hS => ?_)
              have hP : va_P (dC, dI) vwCl [(a_o, .inr (5, [.int o_thrown, .long o_trace, .ref a_o_text, .int o_typed, .int o_next_66, .int o_token_67, .int o_place_68, .int o_value_69, .int o_fault_70, .ref a_o_need, .ref a_o_made, .ref a_o_skillTold, .ref a_o_placeTold, .ref a_o_skips, .ref a_o_wheelTold, .int o_trades, .int o_people, .int o_draftTrades, .int o_draftPeople, .int o_isShut, .ref a_o_tunes, .ref a_o_s, .ref a_o_spare, .ref a_o_kept, .ref a_o_isKept, .ref a_o_makes, .ref a_o_works, .ref a_o_order, .int o_falling])), (a_o_text, .inl (cI, 400, .inl o_text)), (a_o_need, .inl (cI, 12, .inl o_need)), (a_o_made, .inl (cI, 12, .inl o_made)), (a_o_skillTold, .inl (cI, 72, .inl o_skillTold)), (a_o_placeTold, .inl (cI, 12, .inl o_placeTold)), (a_o_skips, .inl (cI, 12, .inl o_skips)), (a_o_wheelTold, .inl (cI, 12, .inl o_wheelTold))] H := hP
              have hD : va_D A [(a_o, .inr (5, [.int o_thrown, .long o_trace, .ref a_o_text, .int o_typed, .int o_next_66, .int o_token_67, .int o_place_68, .int o_value_69, .int o_fault_70, .ref a_o_need, .ref a_o_made, .ref a_o_skillTold, .ref a_o_placeTold, .ref a_o_skips, .ref a_o_wheelTold, .int o_trades, .int o_people, .int o_draftTrades, .int o_draftPeople, .int o_isShut, .ref a_o_tunes, .ref a_o_s, .ref a_o_spare, .ref a_o_kept, .ref a_o_isKept, .ref a_o_makes, .ref a_o_works, .ref a_o_order, .int o_falling])), (a_o_text, .inl (cI, 400, .inl o_text)), (a_o_need, .inl (cI, 12, .inl o_need)), (a_o_made, .inl (cI, 12, .inl o_made)), (a_o_skillTold, .inl (cI, 72, .inl o_skillTold)), (a_o_placeTold, .inl (cI, 12, .inl o_placeTold)), (a_o_skips, .inl (cI, 12, .inl o_skips)), (a_o_wheelTold, .inl (cI, 12, .inl o_wheelTold))] := hD
              refine lv_if_eq (tgt := 263) hx hb dX5_readsItem_237 (by decide) (fun c_96 => ?_) (fun c_96 => ?_)
              · have hf := pit hf c_96
                refine lv_aload_n hx hb dX5_readsItem_263 rfl (lv_at hl 3 rfl) ?_
                obtain ⟨r_97, hc, hf⟩ := pb1 hf
                refine gCi (va_runV (As := []) (rest := []) hF (kX5_isWell l dC dI Z cC cI cZ cW a_o a_o_text a_o_need a_o_made a_o_skillTold a_o_placeTold a_o_skips a_o_wheelTold a_o_tunes a_o_s a_o_spare a_o_kept a_o_isKept a_o_makes a_o_works a_o_order _ o_thrown o_trace o_typed o_next_66 o_token_67 o_place_68 o_value_69 o_fault_70 o_trades o_people o_draftTrades o_draftPeople o_isShut o_falling  N r_97 hc) (cwV 0 hts gX5_readsItem_X5_isWell rfl rfl rfl (by decide +kernel) ⟨Nat.le_of_ble_eq_true rfl, Nat.le_of_ble_eq_true rfl⟩) (gPV (wc := [(a_o, .inr (5, [.int o_thrown, .long o_trace, .ref a_o_text, .int o_typed, .int o_next_66, .int o_token_67, .int o_place_68, .int o_value_69, .int o_fault_70, .ref a_o_need, .ref a_o_made, .ref a_o_skillTold, .ref a_o_placeTold, .ref a_o_skips, .ref a_o_wheelTold, .int o_trades, .int o_people, .int o_draftTrades, .int o_draftPeople, .int o_isShut, .ref a_o_tunes, .ref a_o_s, .ref a_o_spare, .ref a_o_kept, .ref a_o_isKept, .ref a_o_makes, .ref a_o_works, .ref a_o_order, .int o_falling]))]) hK hN hA hS hP hD [0] rfl rfl (q0 := 0) (ci := 5) rfl rfl rfl) rfl rfl hl.1 rfl (lv_room (Nat.le_of_ble_eq_true rfl)) dX5_readsItem_264 ⟨Nat.zero_le _, Nat.zero_le _⟩) hP hD hS hA [0] rfl rfl rfl (fun H locs hP hD hS => ?_)
                have hP : va_P (dC, dI) vwCl [(a_o, .inr (5, [.int o_thrown, .long o_trace, .ref a_o_text, .int o_typed, .int o_next_66, .int o_token_67, .int o_place_68, .int o_value_69, .int o_fault_70, .ref a_o_need, .ref a_o_made, .ref a_o_skillTold, .ref a_o_placeTold, .ref a_o_skips, .ref a_o_wheelTold, .int o_trades, .int o_people, .int o_draftTrades, .int o_draftPeople, .int o_isShut, .ref a_o_tunes, .ref a_o_s, .ref a_o_spare, .ref a_o_kept, .ref a_o_isKept, .ref a_o_makes, .ref a_o_works, .ref a_o_order, .int o_falling])), (a_o_text, .inl (cI, 400, .inl o_text)), (a_o_need, .inl (cI, 12, .inl o_need)), (a_o_made, .inl (cI, 12, .inl o_made)), (a_o_skillTold, .inl (cI, 72, .inl o_skillTold)), (a_o_placeTold, .inl (cI, 12, .inl o_placeTold)), (a_o_skips, .inl (cI, 12, .inl o_skips)), (a_o_wheelTold, .inl (cI, 12, .inl o_wheelTold))] H := hP
                have hD : va_D A [(a_o, .inr (5, [.int o_thrown, .long o_trace, .ref a_o_text, .int o_typed, .int o_next_66, .int o_token_67, .int o_place_68, .int o_value_69, .int o_fault_70, .ref a_o_need, .ref a_o_made, .ref a_o_skillTold, .ref a_o_placeTold, .ref a_o_skips, .ref a_o_wheelTold, .int o_trades, .int o_people, .int o_draftTrades, .int o_draftPeople, .int o_isShut, .ref a_o_tunes, .ref a_o_s, .ref a_o_spare, .ref a_o_kept, .ref a_o_isKept, .ref a_o_makes, .ref a_o_works, .ref a_o_order, .int o_falling])), (a_o_text, .inl (cI, 400, .inl o_text)), (a_o_need, .inl (cI, 12, .inl o_need)), (a_o_made, .inl (cI, 12, .inl o_made)), (a_o_skillTold, .inl (cI, 72, .inl o_skillTold)), (a_o_placeTold, .inl (cI, 12, .inl o_placeTold)), (a_o_skips, .inl (cI, 12, .inl o_skips)), (a_o_wheelTold, .inl (cI, 12, .inl o_wheelTold))] := hD
                refine lv_if_eq (tgt := 280) hx hb dX5_readsItem_267 (by decide) (fun c_98 => ?_) (fun c_98 => ?_)
                · have hf := pit hf c_98
                  refine lv_aload_n hx hb dX5_readsItem_280 rfl (lv_at hl 3 rfl) ?_
                  refine lv_aload_n hx hb dX5_readsItem_281 rfl (lv_at hl 3 rfl) ?_
                  refine va_get (D := (dC, dI)) (ci := 5) (v := .int o_isShut) (C := RX5) (T := TX5) (N := 29) hx hb hts uX5_readsItem_X5 hown hK hP 0 rfl rfl 19 (by decide) (hts _ mX5_readsItem_2) (fun _ h9 => h9) rfl dX5_readsItem_282 ?_
                  refine lv_if_ne (tgt := 293) hx hb dX5_readsItem_285 (by decide) (fun c_99 => ?_) (fun c_99 => ?_)
                  · have hf := pif hf c_99
                    refine lv_iconst (v := (1 : Int32)) hx hb dX5_readsItem_293 (by decide) ?_
                    refine lv_goto (tgt := 298) hx hb dX5_readsItem_294 (by decide) ?_
                    refine va_put (D := (dC, dI)) (ci := 5) (v := .int (1 : Int32)) (ty := .boolean) (C := RX5) (T := TX5) (N := 29) hx hb hts uX5_readsItem_X5 tyX5 tyX5_ok nmX5 hown hK hP hD hS 0 rfl rfl 19 (by decide) (hts _ mX5_readsItem_2) (fun _ h9 => h9) rfl (by decide +kernel) rfl rfl (Nat.le_of_ble_eq_true rfl) dX5_readsItem_298 (fun H locs hP hD hS => ?_)
                    have hP : va_P (dC, dI) vwCl [(a_o, .inr (5, [.int o_thrown, .long o_trace, .ref a_o_text, .int o_typed, .int o_next_66, .int o_token_67, .int o_place_68, .int o_value_69, .int o_fault_70, .ref a_o_need, .ref a_o_made, .ref a_o_skillTold, .ref a_o_placeTold, .ref a_o_skips, .ref a_o_wheelTold, .int o_trades, .int o_people, .int o_draftTrades, .int o_draftPeople, .int (1 : Int32), .ref a_o_tunes, .ref a_o_s, .ref a_o_spare, .ref a_o_kept, .ref a_o_isKept, .ref a_o_makes, .ref a_o_works, .ref a_o_order, .int o_falling])), (a_o_text, .inl (cI, 400, .inl o_text)), (a_o_need, .inl (cI, 12, .inl o_need)), (a_o_made, .inl (cI, 12, .inl o_made)), (a_o_skillTold, .inl (cI, 72, .inl o_skillTold)), (a_o_placeTold, .inl (cI, 12, .inl o_placeTold)), (a_o_skips, .inl (cI, 12, .inl o_skips)), (a_o_wheelTold, .inl (cI, 12, .inl o_wheelTold))] H := hP
                    have hD : va_D A [(a_o, .inr (5, [.int o_thrown, .long o_trace, .ref a_o_text, .int o_typed, .int o_next_66, .int o_token_67, .int o_place_68, .int o_value_69, .int o_fault_70, .ref a_o_need, .ref a_o_made, .ref a_o_skillTold, .ref a_o_placeTold, .ref a_o_skips, .ref a_o_wheelTold, .int o_trades, .int o_people, .int o_draftTrades, .int o_draftPeople, .int (1 : Int32), .ref a_o_tunes, .ref a_o_s, .ref a_o_spare, .ref a_o_kept, .ref a_o_isKept, .ref a_o_makes, .ref a_o_works, .ref a_o_order, .int o_falling])), (a_o_text, .inl (cI, 400, .inl o_text)), (a_o_need, .inl (cI, 12, .inl o_need)), (a_o_made, .inl (cI, 12, .inl o_made)), (a_o_skillTold, .inl (cI, 72, .inl o_skillTold)), (a_o_placeTold, .inl (cI, 12, .inl o_placeTold)), (a_o_skips, .inl (cI, 12, .inl o_skips)), (a_o_wheelTold, .inl (cI, 12, .inl o_wheelTold))] := hD
                    have q0 := Option.some.inj hf
                    obtain ⟨e0, q1⟩ := Prod.mk.inj q0
                    obtain ⟨e1, q2⟩ := Prod.mk.inj q1
                    obtain ⟨e2, q3⟩ := Prod.mk.inj q2
                    obtain ⟨e3, q4⟩ := Prod.mk.inj q3
                    obtain ⟨e4, q5⟩ := Prod.mk.inj q4
                    obtain ⟨e5, q6⟩ := Prod.mk.inj q5
                    obtain ⟨e6, q7⟩ := Prod.mk.inj q6
                    obtain ⟨e7, q8⟩ := Prod.mk.inj q7
                    obtain ⟨e8, q9⟩ := Prod.mk.inj q8
                    obtain ⟨e9, q10⟩ := Prod.mk.inj q9
                    obtain ⟨e10, q11⟩ := Prod.mk.inj q10
                    obtain ⟨e11, q12⟩ := Prod.mk.inj q11
                    obtain ⟨e12, q13⟩ := Prod.mk.inj q12
                    subst e0
                    subst e1
                    subst e2
                    subst e3
                    subst e4
                    subst e5
                    subst e6
                    subst e7
                    subst e8
                    subst e9
                    subst e10
                    subst e11
                    subst e12
                    subst q13
                    exact gRv hx hb hr hlocks hP hS dX5_readsItem_301
                  · have hf := pit hf c_99
                    refine lv_iload_n hx hb dX5_readsItem_288 rfl (lv_at hl 4 rfl) ?_
                    refine lv_iconst (v := (1 : Int32)) hx hb dX5_readsItem_289 (by decide) ?_
                    refine lv_icmp_le (tgt := 297) hx hb dX5_readsItem_290 (by decide) (fun c_100 => ?_) (fun c_100 => ?_)
                    · have hf := pit hf c_100
                      refine lv_iconst (v := (0 : Int32)) hx hb dX5_readsItem_297 (by decide) ?_
                      refine va_put (D := (dC, dI)) (ci := 5) (v := .int (0 : Int32)) (ty := .boolean) (C := RX5) (T := TX5) (N := 29) hx hb hts uX5_readsItem_X5 tyX5 tyX5_ok nmX5 hown hK hP hD hS 0 rfl rfl 19 (by decide) (hts _ mX5_readsItem_2) (fun _ h9 => h9) rfl (by decide +kernel) rfl rfl (Nat.le_of_ble_eq_true rfl) dX5_readsItem_298 (fun H locs hP hD hS => ?_)
                      have hP : va_P (dC, dI) vwCl [(a_o, .inr (5, [.int o_thrown, .long o_trace, .ref a_o_text, .int o_typed, .int o_next_66, .int o_token_67, .int o_place_68, .int o_value_69, .int o_fault_70, .ref a_o_need, .ref a_o_made, .ref a_o_skillTold, .ref a_o_placeTold, .ref a_o_skips, .ref a_o_wheelTold, .int o_trades, .int o_people, .int o_draftTrades, .int o_draftPeople, .int (0 : Int32), .ref a_o_tunes, .ref a_o_s, .ref a_o_spare, .ref a_o_kept, .ref a_o_isKept, .ref a_o_makes, .ref a_o_works, .ref a_o_order, .int o_falling])), (a_o_text, .inl (cI, 400, .inl o_text)), (a_o_need, .inl (cI, 12, .inl o_need)), (a_o_made, .inl (cI, 12, .inl o_made)), (a_o_skillTold, .inl (cI, 72, .inl o_skillTold)), (a_o_placeTold, .inl (cI, 12, .inl o_placeTold)), (a_o_skips, .inl (cI, 12, .inl o_skips)), (a_o_wheelTold, .inl (cI, 12, .inl o_wheelTold))] H := hP
                      have hD : va_D A [(a_o, .inr (5, [.int o_thrown, .long o_trace, .ref a_o_text, .int o_typed, .int o_next_66, .int o_token_67, .int o_place_68, .int o_value_69, .int o_fault_70, .ref a_o_need, .ref a_o_made, .ref a_o_skillTold, .ref a_o_placeTold, .ref a_o_skips, .ref a_o_wheelTold, .int o_trades, .int o_people, .int o_draftTrades, .int o_draftPeople, .int (0 : Int32), .ref a_o_tunes, .ref a_o_s, .ref a_o_spare, .ref a_o_kept, .ref a_o_isKept, .ref a_o_makes, .ref a_o_works, .ref a_o_order, .int o_falling])), (a_o_text, .inl (cI, 400, .inl o_text)), (a_o_need, .inl (cI, 12, .inl o_need)), (a_o_made, .inl (cI, 12, .inl o_made)), (a_o_skillTold, .inl (cI, 72, .inl o_skillTold)), (a_o_placeTold, .inl (cI, 12, .inl o_placeTold)), (a_o_skips, .inl (cI, 12, .inl o_skips)), (a_o_wheelTold, .inl (cI, 12, .inl o_wheelTold))] := hD
                      have q0 := Option.some.inj hf
                      obtain ⟨e0, q1⟩ := Prod.mk.inj q0
                      obtain ⟨e1, q2⟩ := Prod.mk.inj q1
                      obtain ⟨e2, q3⟩ := Prod.mk.inj q2
                      obtain ⟨e3, q4⟩ := Prod.mk.inj q3
                      obtain ⟨e4, q5⟩ := Prod.mk.inj q4
                      obtain ⟨e5, q6⟩ := Prod.mk.inj q5
                      obtain ⟨e6, q7⟩ := Prod.mk.inj q6
                      obtain ⟨e7, q8⟩ := Prod.mk.inj q7
                      obtain ⟨e8, q9⟩ := Prod.mk.inj q8
                      obtain ⟨e9, q10⟩ := Prod.mk.inj q9
                      obtain ⟨e10, q11⟩ := Prod.mk.inj q10
                      obtain ⟨e11, q12⟩ := Prod.mk.inj q11
                      obtain ⟨e12, q13⟩ := Prod.mk.inj q12
                      subst e0
                      subst e1
                      subst e2
                      subst e3
                      subst e4
                      subst e5
                      subst e6
                      subst e7
                      subst e8
                      subst e9
                      subst e10
                      subst e11
                      subst e12
                      subst q13
                      exact gRv hx hb hr hlocks hP hS dX5_readsItem_301
                    · have hf := pif hf c_100
                      refine lv_iconst (v := (1 : Int32)) hx hb dX5_readsItem_293 (by decide) ?_
                      refine lv_goto (tgt := 298) hx hb dX5_readsItem_294 (by decide) ?_
                      refine va_put (D := (dC, dI)) (ci := 5) (v := .int (1 : Int32)) (ty := .boolean) (C := RX5) (T := TX5) (N := 29) hx hb hts uX5_readsItem_X5 tyX5 tyX5_ok nmX5 hown hK hP hD hS 0 rfl rfl 19 (by decide) (hts _ mX5_readsItem_2) (fun _ h9 => h9) rfl (by decide +kernel) rfl rfl (Nat.le_of_ble_eq_true rfl) dX5_readsItem_298 (fun H locs hP hD hS => ?_)
                      have hP : va_P (dC, dI) vwCl [(a_o, .inr (5, [.int o_thrown, .long o_trace, .ref a_o_text, .int o_typed, .int o_next_66, .int o_token_67, .int o_place_68, .int o_value_69, .int o_fault_70, .ref a_o_need, .ref a_o_made, .ref a_o_skillTold, .ref a_o_placeTold, .ref a_o_skips, .ref a_o_wheelTold, .int o_trades, .int o_people, .int o_draftTrades, .int o_draftPeople, .int (1 : Int32), .ref a_o_tunes, .ref a_o_s, .ref a_o_spare, .ref a_o_kept, .ref a_o_isKept, .ref a_o_makes, .ref a_o_works, .ref a_o_order, .int o_falling])), (a_o_text, .inl (cI, 400, .inl o_text)), (a_o_need, .inl (cI, 12, .inl o_need)), (a_o_made, .inl (cI, 12, .inl o_made)), (a_o_skillTold, .inl (cI, 72, .inl o_skillTold)), (a_o_placeTold, .inl (cI, 12, .inl o_placeTold)), (a_o_skips, .inl (cI, 12, .inl o_skips)), (a_o_wheelTold, .inl (cI, 12, .inl o_wheelTold))] H := hP
                      have hD : va_D A [(a_o, .inr (5, [.int o_thrown, .long o_trace, .ref a_o_text, .int o_typed, .int o_next_66, .int o_token_67, .int o_place_68, .int o_value_69, .int o_fault_70, .ref a_o_need, .ref a_o_made, .ref a_o_skillTold, .ref a_o_placeTold, .ref a_o_skips, .ref a_o_wheelTold, .int o_trades, .int o_people, .int o_draftTrades, .int o_draftPeople, .int (1 : Int32), .ref a_o_tunes, .ref a_o_s, .ref a_o_spare, .ref a_o_kept, .ref a_o_isKept, .ref a_o_makes, .ref a_o_works, .ref a_o_order, .int o_falling])), (a_o_text, .inl (cI, 400, .inl o_text)), (a_o_need, .inl (cI, 12, .inl o_need)), (a_o_made, .inl (cI, 12, .inl o_made)), (a_o_skillTold, .inl (cI, 72, .inl o_skillTold)), (a_o_placeTold, .inl (cI, 12, .inl o_placeTold)), (a_o_skips, .inl (cI, 12, .inl o_skips)), (a_o_wheelTold, .inl (cI, 12, .inl o_wheelTold))] := hD
                      have q0 := Option.some.inj hf
                      obtain ⟨e0, q1⟩ := Prod.mk.inj q0
                      obtain ⟨e1, q2⟩ := Prod.mk.inj q1
                      obtain ⟨e2, q3⟩ := Prod.mk.inj q2
                      obtain ⟨e3, q4⟩ := Prod.mk.inj q3
                      obtain ⟨e4, q5⟩ := Prod.mk.inj q4
                      obtain ⟨e5, q6⟩ := Prod.mk.inj q5
                      obtain ⟨e6, q7⟩ := Prod.mk.inj q6
                      obtain ⟨e7, q8⟩ := Prod.mk.inj q7
                      obtain ⟨e8, q9⟩ := Prod.mk.inj q8
                      obtain ⟨e9, q10⟩ := Prod.mk.inj q9
                      obtain ⟨e10, q11⟩ := Prod.mk.inj q10
                      obtain ⟨e11, q12⟩ := Prod.mk.inj q11
                      obtain ⟨e12, q13⟩ := Prod.mk.inj q12
                      subst e0
                      subst e1
                      subst e2
                      subst e3
                      subst e4
                      subst e5
                      subst e6
                      subst e7
                      subst e8
                      subst e9
                      subst e10
                      subst e11
                      subst e12
                      subst q13
                      exact gRv hx hb hr hlocks hP hS dX5_readsItem_301
                · have hf := pif hf c_98
                  refine lv_aload_n hx hb dX5_readsItem_270 rfl (lv_at hl 3 rfl) ?_
                  refine va_get (D := (dC, dI)) (ci := 5) (v := .ref a_o_placeTold) (C := RX5) (T := TX5) (N := 29) hx hb hts uX5_readsItem_X5 hown hK hP 0 rfl rfl 12 (by decide) (hts _ mX5_readsItem_3) (fun _ h9 => h9) rfl dX5_readsItem_271 ?_
                  refine lv_bipush (v := (6 : Int32)) hx hb dX5_readsItem_274 (by decide) ?_
                  refine lv_iload_n hx hb dX5_readsItem_276 rfl (lv_at hl 2 rfl) ?_
                  refine lv_iadd hx hb dX5_readsItem_277 ?_
                  refine lv_iload_n hx hb dX5_readsItem_278 rfl (lv_at hl 1 rfl) ?_
                  obtain ⟨h_101, hf⟩ := pgd hf
                  refine va_iast hx hb hK hP hD hS 5 1 rfl rfl h_101 dX5_readsItem_279 (fun H locs hP hD hS => ?_)
                  have hP : va_P (dC, dI) vwCl [(a_o, .inr (5, [.int o_thrown, .long o_trace, .ref a_o_text, .int o_typed, .int o_next_66, .int o_token_67, .int o_place_68, .int o_value_69, .int o_fault_70, .ref a_o_need, .ref a_o_made, .ref a_o_skillTold, .ref a_o_placeTold, .ref a_o_skips, .ref a_o_wheelTold, .int o_trades, .int o_people, .int o_draftTrades, .int o_draftPeople, .int o_isShut, .ref a_o_tunes, .ref a_o_s, .ref a_o_spare, .ref a_o_kept, .ref a_o_isKept, .ref a_o_makes, .ref a_o_works, .ref a_o_order, .int o_falling])), (a_o_text, .inl (cI, 400, .inl o_text)), (a_o_need, .inl (cI, 12, .inl o_need)), (a_o_made, .inl (cI, 12, .inl o_made)), (a_o_skillTold, .inl (cI, 72, .inl o_skillTold)), (a_o_placeTold, .inl (cI, 12, .inl (upd o_placeTold ((6 : Int32) + r_4).toNatClampNeg r_10))), (a_o_skips, .inl (cI, 12, .inl o_skips)), (a_o_wheelTold, .inl (cI, 12, .inl o_wheelTold))] H := hP
                  have hD : va_D A [(a_o, .inr (5, [.int o_thrown, .long o_trace, .ref a_o_text, .int o_typed, .int o_next_66, .int o_token_67, .int o_place_68, .int o_value_69, .int o_fault_70, .ref a_o_need, .ref a_o_made, .ref a_o_skillTold, .ref a_o_placeTold, .ref a_o_skips, .ref a_o_wheelTold, .int o_trades, .int o_people, .int o_draftTrades, .int o_draftPeople, .int o_isShut, .ref a_o_tunes, .ref a_o_s, .ref a_o_spare, .ref a_o_kept, .ref a_o_isKept, .ref a_o_makes, .ref a_o_works, .ref a_o_order, .int o_falling])), (a_o_text, .inl (cI, 400, .inl o_text)), (a_o_need, .inl (cI, 12, .inl o_need)), (a_o_made, .inl (cI, 12, .inl o_made)), (a_o_skillTold, .inl (cI, 72, .inl o_skillTold)), (a_o_placeTold, .inl (cI, 12, .inl (upd o_placeTold ((6 : Int32) + r_4).toNatClampNeg r_10))), (a_o_skips, .inl (cI, 12, .inl o_skips)), (a_o_wheelTold, .inl (cI, 12, .inl o_wheelTold))] := hD
                  refine lv_aload_n hx hb dX5_readsItem_280 rfl (lv_at hl 3 rfl) ?_
                  refine lv_aload_n hx hb dX5_readsItem_281 rfl (lv_at hl 3 rfl) ?_
                  refine va_get (D := (dC, dI)) (ci := 5) (v := .int o_isShut) (C := RX5) (T := TX5) (N := 29) hx hb hts uX5_readsItem_X5 hown hK hP 0 rfl rfl 19 (by decide) (hts _ mX5_readsItem_2) (fun _ h9 => h9) rfl dX5_readsItem_282 ?_
                  refine lv_if_ne (tgt := 293) hx hb dX5_readsItem_285 (by decide) (fun c_102 => ?_) (fun c_102 => ?_)
                  · have hf := pif hf c_102
                    refine lv_iconst (v := (1 : Int32)) hx hb dX5_readsItem_293 (by decide) ?_
                    refine lv_goto (tgt := 298) hx hb dX5_readsItem_294 (by decide) ?_
                    refine va_put (D := (dC, dI)) (ci := 5) (v := .int (1 : Int32)) (ty := .boolean) (C := RX5) (T := TX5) (N := 29) hx hb hts uX5_readsItem_X5 tyX5 tyX5_ok nmX5 hown hK hP hD hS 0 rfl rfl 19 (by decide) (hts _ mX5_readsItem_2) (fun _ h9 => h9) rfl (by decide +kernel) rfl rfl (Nat.le_of_ble_eq_true rfl) dX5_readsItem_298 (fun H locs hP hD hS => ?_)
                    have hP : va_P (dC, dI) vwCl [(a_o, .inr (5, [.int o_thrown, .long o_trace, .ref a_o_text, .int o_typed, .int o_next_66, .int o_token_67, .int o_place_68, .int o_value_69, .int o_fault_70, .ref a_o_need, .ref a_o_made, .ref a_o_skillTold, .ref a_o_placeTold, .ref a_o_skips, .ref a_o_wheelTold, .int o_trades, .int o_people, .int o_draftTrades, .int o_draftPeople, .int (1 : Int32), .ref a_o_tunes, .ref a_o_s, .ref a_o_spare, .ref a_o_kept, .ref a_o_isKept, .ref a_o_makes, .ref a_o_works, .ref a_o_order, .int o_falling])), (a_o_text, .inl (cI, 400, .inl o_text)), (a_o_need, .inl (cI, 12, .inl o_need)), (a_o_made, .inl (cI, 12, .inl o_made)), (a_o_skillTold, .inl (cI, 72, .inl o_skillTold)), (a_o_placeTold, .inl (cI, 12, .inl (upd o_placeTold ((6 : Int32) + r_4).toNatClampNeg r_10))), (a_o_skips, .inl (cI, 12, .inl o_skips)), (a_o_wheelTold, .inl (cI, 12, .inl o_wheelTold))] H := hP
                    have hD : va_D A [(a_o, .inr (5, [.int o_thrown, .long o_trace, .ref a_o_text, .int o_typed, .int o_next_66, .int o_token_67, .int o_place_68, .int o_value_69, .int o_fault_70, .ref a_o_need, .ref a_o_made, .ref a_o_skillTold, .ref a_o_placeTold, .ref a_o_skips, .ref a_o_wheelTold, .int o_trades, .int o_people, .int o_draftTrades, .int o_draftPeople, .int (1 : Int32), .ref a_o_tunes, .ref a_o_s, .ref a_o_spare, .ref a_o_kept, .ref a_o_isKept, .ref a_o_makes, .ref a_o_works, .ref a_o_order, .int o_falling])), (a_o_text, .inl (cI, 400, .inl o_text)), (a_o_need, .inl (cI, 12, .inl o_need)), (a_o_made, .inl (cI, 12, .inl o_made)), (a_o_skillTold, .inl (cI, 72, .inl o_skillTold)), (a_o_placeTold, .inl (cI, 12, .inl (upd o_placeTold ((6 : Int32) + r_4).toNatClampNeg r_10))), (a_o_skips, .inl (cI, 12, .inl o_skips)), (a_o_wheelTold, .inl (cI, 12, .inl o_wheelTold))] := hD
                    have q0 := Option.some.inj hf
                    obtain ⟨e0, q1⟩ := Prod.mk.inj q0
                    obtain ⟨e1, q2⟩ := Prod.mk.inj q1
                    obtain ⟨e2, q3⟩ := Prod.mk.inj q2
                    obtain ⟨e3, q4⟩ := Prod.mk.inj q3
                    obtain ⟨e4, q5⟩ := Prod.mk.inj q4
                    obtain ⟨e5, q6⟩ := Prod.mk.inj q5
                    obtain ⟨e6, q7⟩ := Prod.mk.inj q6
                    obtain ⟨e7, q8⟩ := Prod.mk.inj q7
                    obtain ⟨e8, q9⟩ := Prod.mk.inj q8
                    obtain ⟨e9, q10⟩ := Prod.mk.inj q9
                    obtain ⟨e10, q11⟩ := Prod.mk.inj q10
                    obtain ⟨e11, q12⟩ := Prod.mk.inj q11
                    obtain ⟨e12, q13⟩ := Prod.mk.inj q12
                    subst e0
                    subst e1
                    subst e2
                    subst e3
                    subst e4
                    subst e5
                    subst e6
                    subst e7
                    subst e8
                    subst e9
                    subst e10
                    subst e11
                    subst e12
                    subst q13
                    exact gRv hx hb hr hlocks hP hS dX5_readsItem_301
                  · have hf := pit hf c_102
                    refine lv_iload_n hx hb dX5_readsItem_288 rfl (lv_at hl 4 rfl) ?_
                    refine lv_iconst (v := (1 : Int32)) hx hb dX5_readsItem_289 (by decide) ?_
                    refine lv_icmp_le (tgt := 297) hx hb dX5_readsItem_290 (by decide) (fun c_103 => ?_) (fun c_103 => ?_)
                    · have hf := pit hf c_103
                      refine lv_iconst (v := (0 : Int32)) hx hb dX5_readsItem_297 (by decide) ?_
                      refine va_put (D := (dC, dI)) (ci := 5) (v := .int (0 : Int32)) (ty := .boolean) (C := RX5) (T := TX5) (N := 29) hx hb hts uX5_readsItem_X5 tyX5 tyX5_ok nmX5 hown hK hP hD hS 0 rfl rfl 19 (by decide) (hts _ mX5_readsItem_2) (fun _ h9 => h9) rfl (by decide +kernel) rfl rfl (Nat.le_of_ble_eq_true rfl) dX5_readsItem_298 (fun H locs hP hD hS => ?_)
                      have hP : va_P (dC, dI) vwCl [(a_o, .inr (5, [.int o_thrown, .long o_trace, .ref a_o_text, .int o_typed, .int o_next_66, .int o_token_67, .int o_place_68, .int o_value_69, .int o_fault_70, .ref a_o_need, .ref a_o_made, .ref a_o_skillTold, .ref a_o_placeTold, .ref a_o_skips, .ref a_o_wheelTold, .int o_trades, .int o_people, .int o_draftTrades, .int o_draftPeople, .int (0 : Int32), .ref a_o_tunes, .ref a_o_s, .ref a_o_spare, .ref a_o_kept, .ref a_o_isKept, .ref a_o_makes, .ref a_o_works, .ref a_o_order, .int o_falling])), (a_o_text, .inl (cI, 400, .inl o_text)), (a_o_need, .inl (cI, 12, .inl o_need)), (a_o_made, .inl (cI, 12, .inl o_made)), (a_o_skillTold, .inl (cI, 72, .inl o_skillTold)), (a_o_placeTold, .inl (cI, 12, .inl (upd o_placeTold ((6 : Int32) + r_4).toNatClampNeg r_10))), (a_o_skips, .inl (cI, 12, .inl o_skips)), (a_o_wheelTold, .inl (cI, 12, .inl o_wheelTold))] H := hP
                      have hD : va_D A [(a_o, .inr (5, [.int o_thrown, .long o_trace, .ref a_o_text, .int o_typed, .int o_next_66, .int o_token_67, .int o_place_68, .int o_value_69, .int o_fault_70, .ref a_o_need, .ref a_o_made, .ref a_o_skillTold, .ref a_o_placeTold, .ref a_o_skips, .ref a_o_wheelTold, .int o_trades, .int o_people, .int o_draftTrades, .int o_draftPeople, .int (0 : Int32), .ref a_o_tunes, .ref a_o_s, .ref a_o_spare, .ref a_o_kept, .ref a_o_isKept, .ref a_o_makes, .ref a_o_works, .ref a_o_order, .int o_falling])), (a_o_text, .inl (cI, 400, .inl o_text)), (a_o_need, .inl (cI, 12, .inl o_need)), (a_o_made, .inl (cI, 12, .inl o_made)), (a_o_skillTold, .inl (cI, 72, .inl o_skillTold)), (a_o_placeTold, .inl (cI, 12, .inl (upd o_placeTold ((6 : Int32) + r_4).toNatClampNeg r_10))), (a_o_skips, .inl (cI, 12, .inl o_skips)), (a_o_wheelTold, .inl (cI, 12, .inl o_wheelTold))] := hD
                      have q0 := Option.some.inj hf
                      obtain ⟨e0, q1⟩ := Prod.mk.inj q0
                      obtain ⟨e1, q2⟩ := Prod.mk.inj q1
                      obtain ⟨e2, q3⟩ := Prod.mk.inj q2
                      obtain ⟨e3, q4⟩ := Prod.mk.inj q3
                      obtain ⟨e4, q5⟩ := Prod.mk.inj q4
                      obtain ⟨e5, q6⟩ := Prod.mk.inj q5
                      obtain ⟨e6, q7⟩ := Prod.mk.inj q6
                      obtain ⟨e7, q8⟩ := Prod.mk.inj q7
                      obtain ⟨e8, q9⟩ := Prod.mk.inj q8
                      obtain ⟨e9, q10⟩ := Prod.mk.inj q9
                      obtain ⟨e10, q11⟩ := Prod.mk.inj q10
                      obtain ⟨e11, q12⟩ := Prod.mk.inj q11
                      obtain ⟨e12, q13⟩ := Prod.mk.inj q12
                      subst e0
                      subst e1
                      subst e2
                      subst e3
                      subst e4
                      subst e5
                      subst e6
                      subst e7
                      subst e8
                      subst e9
                      subst e10
                      subst e11
                      subst e12
                      subst q13
                      exact gRv hx hb hr hlocks hP hS dX5_readsItem_301
                    · have hf := pif hf c_103
                      refine lv_iconst (v := (1 : Int32)) hx hb dX5_readsItem_293 (by decide) ?_
                      refine lv_goto (tgt := 298) hx hb dX5_readsItem_294 (by decide) ?_
                      refine va_put (D := (dC, dI)) (ci := 5) (v := .int (1 : Int32)) (ty := .boolean) (C := RX5) (T := TX5) (N := 29) hx hb hts uX5_readsItem_X5 tyX5 tyX5_ok nmX5 hown hK hP hD hS 0 rfl rfl 19 (by decide) (hts _ mX5_readsItem_2) (fun _ h9 => h9) rfl (by decide +kernel) rfl rfl (Nat.le_of_ble_eq_true rfl) dX5_readsItem_298 (fun H locs hP hD hS => ?_)
                      have hP : va_P (dC, dI) vwCl [(a_o, .inr (5, [.int o_thrown, .long o_trace, .ref a_o_text, .int o_typed, .int o_next_66, .int o_token_67, .int o_place_68, .int o_value_69, .int o_fault_70, .ref a_o_need, .ref a_o_made, .ref a_o_skillTold, .ref a_o_placeTold, .ref a_o_skips, .ref a_o_wheelTold, .int o_trades, .int o_people, .int o_draftTrades, .int o_draftPeople, .int (1 : Int32), .ref a_o_tunes, .ref a_o_s, .ref a_o_spare, .ref a_o_kept, .ref a_o_isKept, .ref a_o_makes, .ref a_o_works, .ref a_o_order, .int o_falling])), (a_o_text, .inl (cI, 400, .inl o_text)), (a_o_need, .inl (cI, 12, .inl o_need)), (a_o_made, .inl (cI, 12, .inl o_made)), (a_o_skillTold, .inl (cI, 72, .inl o_skillTold)), (a_o_placeTold, .inl (cI, 12, .inl (upd o_placeTold ((6 : Int32) + r_4).toNatClampNeg r_10))), (a_o_skips, .inl (cI, 12, .inl o_skips)), (a_o_wheelTold, .inl (cI, 12, .inl o_wheelTold))] H := hP
                      have hD : va_D A [(a_o, .inr (5, [.int o_thrown, .long o_trace, .ref a_o_text, .int o_typed, .int o_next_66, .int o_token_67, .int o_place_68, .int o_value_69, .int o_fault_70, .ref a_o_need, .ref a_o_made, .ref a_o_skillTold, .ref a_o_placeTold, .ref a_o_skips, .ref a_o_wheelTold, .int o_trades, .int o_people, .int o_draftTrades, .int o_draftPeople, .int (1 : Int32), .ref a_o_tunes, .ref a_o_s, .ref a_o_spare, .ref a_o_kept, .ref a_o_isKept, .ref a_o_makes, .ref a_o_works, .ref a_o_order, .int o_falling])), (a_o_text, .inl (cI, 400, .inl o_text)), (a_o_need, .inl (cI, 12, .inl o_need)), (a_o_made, .inl (cI, 12, .inl o_made)), (a_o_skillTold, .inl (cI, 72, .inl o_skillTold)), (a_o_placeTold, .inl (cI, 12, .inl (upd o_placeTold ((6 : Int32) + r_4).toNatClampNeg r_10))), (a_o_skips, .inl (cI, 12, .inl o_skips)), (a_o_wheelTold, .inl (cI, 12, .inl o_wheelTold))] := hD
                      have q0 := Option.some.inj hf
                      obtain ⟨e0, q1⟩ := Prod.mk.inj q0
                      obtain ⟨e1, q2⟩ := Prod.mk.inj q1
                      obtain ⟨e2, q3⟩ := Prod.mk.inj q2
                      obtain ⟨e3, q4⟩ := Prod.mk.inj q3
                      obtain ⟨e4, q5⟩ := Prod.mk.inj q4
                      obtain ⟨e5, q6⟩ := Prod.mk.inj q5
                      obtain ⟨e6, q7⟩ := Prod.mk.inj q6
                      obtain ⟨e7, q8⟩ := Prod.mk.inj q7
                      obtain ⟨e8, q9⟩ := Prod.mk.inj q8
                      obtain ⟨e9, q10⟩ := Prod.mk.inj q9
                      obtain ⟨e10, q11⟩ := Prod.mk.inj q10
                      obtain ⟨e11, q12⟩ := Prod.mk.inj q11
                      obtain ⟨e12, q13⟩ := Prod.mk.inj q12
                      subst e0
                      subst e1
                      subst e2
                      subst e3
                      subst e4
                      subst e5
                      subst e6
                      subst e7
                      subst e8
                      subst e9
                      subst e10
                      subst e11
                      subst e12
                      subst q13
                      exact gRv hx hb hr hlocks hP hS dX5_readsItem_301
              · have hf := pif hf c_96
                refine lv_iload_n hx hb dX5_readsItem_240 rfl (lv_at hl 4 rfl) ?_
                refine lv_iconst (v := (3 : Int32)) hx hb dX5_readsItem_241 (by decide) ?_
                refine lv_icmp_ne (tgt := 263) hx hb dX5_readsItem_242 (by decide) (fun c_104 => ?_) (fun c_104 => ?_)
                · have hf := pif hf c_104
                  refine lv_aload_n hx hb dX5_readsItem_263 rfl (lv_at hl 3 rfl) ?_
                  obtain ⟨r_105, hc, hf⟩ := pb1 hf
                  refine gCi (va_runV (As := []) (rest := []) hF (kX5_isWell l dC dI Z cC cI cZ cW a_o a_o_text a_o_need a_o_made a_o_skillTold a_o_placeTold a_o_skips a_o_wheelTold a_o_tunes a_o_s a_o_spare a_o_kept a_o_isKept a_o_makes a_o_works a_o_order _ o_thrown o_trace o_typed o_next_66 o_token_67 o_place_68 o_value_69 o_fault_70 o_trades o_people o_draftTrades o_draftPeople o_isShut o_falling  N r_105 hc) (cwV 0 hts gX5_readsItem_X5_isWell rfl rfl rfl (by decide +kernel) ⟨Nat.le_of_ble_eq_true rfl, Nat.le_of_ble_eq_true rfl⟩) (gPV (wc := [(a_o, .inr (5, [.int o_thrown, .long o_trace, .ref a_o_text, .int o_typed, .int o_next_66, .int o_token_67, .int o_place_68, .int o_value_69, .int o_fault_70, .ref a_o_need, .ref a_o_made, .ref a_o_skillTold, .ref a_o_placeTold, .ref a_o_skips, .ref a_o_wheelTold, .int o_trades, .int o_people, .int o_draftTrades, .int o_draftPeople, .int o_isShut, .ref a_o_tunes, .ref a_o_s, .ref a_o_spare, .ref a_o_kept, .ref a_o_isKept, .ref a_o_makes, .ref a_o_works, .ref a_o_order, .int o_falling]))]) hK hN hA hS hP hD [0] rfl rfl (q0 := 0) (ci := 5) rfl rfl rfl) rfl rfl hl.1 rfl (lv_room (Nat.le_of_ble_eq_true rfl)) dX5_readsItem_264 ⟨Nat.zero_le _, Nat.zero_le _⟩) hP hD hS hA [0] rfl rfl rfl (fun H locs hP hD hS => ?_)
                  have hP : va_P (dC, dI) vwCl [(a_o, .inr (5, [.int o_thrown, .long o_trace, .ref a_o_text, .int o_typed, .int o_next_66, .int o_token_67, .int o_place_68, .int o_value_69, .int o_fault_70, .ref a_o_need, .ref a_o_made, .ref a_o_skillTold, .ref a_o_placeTold, .ref a_o_skips, .ref a_o_wheelTold, .int o_trades, .int o_people, .int o_draftTrades, .int o_draftPeople, .int o_isShut, .ref a_o_tunes, .ref a_o_s, .ref a_o_spare, .ref a_o_kept, .ref a_o_isKept, .ref a_o_makes, .ref a_o_works, .ref a_o_order, .int o_falling])), (a_o_text, .inl (cI, 400, .inl o_text)), (a_o_need, .inl (cI, 12, .inl o_need)), (a_o_made, .inl (cI, 12, .inl o_made)), (a_o_skillTold, .inl (cI, 72, .inl o_skillTold)), (a_o_placeTold, .inl (cI, 12, .inl o_placeTold)), (a_o_skips, .inl (cI, 12, .inl o_skips)), (a_o_wheelTold, .inl (cI, 12, .inl o_wheelTold))] H := hP
                  have hD : va_D A [(a_o, .inr (5, [.int o_thrown, .long o_trace, .ref a_o_text, .int o_typed, .int o_next_66, .int o_token_67, .int o_place_68, .int o_value_69, .int o_fault_70, .ref a_o_need, .ref a_o_made, .ref a_o_skillTold, .ref a_o_placeTold, .ref a_o_skips, .ref a_o_wheelTold, .int o_trades, .int o_people, .int o_draftTrades, .int o_draftPeople, .int o_isShut, .ref a_o_tunes, .ref a_o_s, .ref a_o_spare, .ref a_o_kept, .ref a_o_isKept, .ref a_o_makes, .ref a_o_works, .ref a_o_order, .int o_falling])), (a_o_text, .inl (cI, 400, .inl o_text)), (a_o_need, .inl (cI, 12, .inl o_need)), (a_o_made, .inl (cI, 12, .inl o_made)), (a_o_skillTold, .inl (cI, 72, .inl o_skillTold)), (a_o_placeTold, .inl (cI, 12, .inl o_placeTold)), (a_o_skips, .inl (cI, 12, .inl o_skips)), (a_o_wheelTold, .inl (cI, 12, .inl o_wheelTold))] := hD
                  refine lv_if_eq (tgt := 280) hx hb dX5_readsItem_267 (by decide) (fun c_106 => ?_) (fun c_106 => ?_)
                  · have hf := pit hf c_106
                    refine lv_aload_n hx hb dX5_readsItem_280 rfl (lv_at hl 3 rfl) ?_
                    refine lv_aload_n hx hb dX5_readsItem_281 rfl (lv_at hl 3 rfl) ?_
                    refine va_get (D := (dC, dI)) (ci := 5) (v := .int o_isShut) (C := RX5) (T := TX5) (N := 29) hx hb hts uX5_readsItem_X5 hown hK hP 0 rfl rfl 19 (by decide) (hts _ mX5_readsItem_2) (fun _ h9 => h9) rfl dX5_readsItem_282 ?_
                    refine lv_if_ne (tgt := 293) hx hb dX5_readsItem_285 (by decide) (fun c_107 => ?_) (fun c_107 => ?_)
                    · have hf := pif hf c_107
                      refine lv_iconst (v := (1 : Int32)) hx hb dX5_readsItem_293 (by decide) ?_
                      refine lv_goto (tgt := 298) hx hb dX5_readsItem_294 (by decide) ?_
                      refine va_put (D := (dC, dI)) (ci := 5) (v := .int (1 : Int32)) (ty := .boolean) (C := RX5) (T := TX5) (N := 29) hx hb hts uX5_readsItem_X5 tyX5 tyX5_ok nmX5 hown hK hP hD hS 0 rfl rfl 19 (by decide) (hts _ mX5_readsItem_2) (fun _ h9 => h9) rfl (by decide +kernel) rfl rfl (Nat.le_of_ble_eq_true rfl) dX5_readsItem_298 (fun H locs hP hD hS => ?_)
                      have hP : va_P (dC, dI) vwCl [(a_o, .inr (5, [.int o_thrown, .long o_trace, .ref a_o_text, .int o_typed, .int o_next_66, .int o_token_67, .int o_place_68, .int o_value_69, .int o_fault_70, .ref a_o_need, .ref a_o_made, .ref a_o_skillTold, .ref a_o_placeTold, .ref a_o_skips, .ref a_o_wheelTold, .int o_trades, .int o_people, .int o_draftTrades, .int o_draftPeople, .int (1 : Int32), .ref a_o_tunes, .ref a_o_s, .ref a_o_spare, .ref a_o_kept, .ref a_o_isKept, .ref a_o_makes, .ref a_o_works, .ref a_o_order, .int o_falling])), (a_o_text, .inl (cI, 400, .inl o_text)), (a_o_need, .inl (cI, 12, .inl o_need)), (a_o_made, .inl (cI, 12, .inl o_made)), (a_o_skillTold, .inl (cI, 72, .inl o_skillTold)), (a_o_placeTold, .inl (cI, 12, .inl o_placeTold)), (a_o_skips, .inl (cI, 12, .inl o_skips)), (a_o_wheelTold, .inl (cI, 12, .inl o_wheelTold))] H := hP
                      have hD : va_D A [(a_o, .inr (5, [.int o_thrown, .long o_trace, .ref a_o_text, .int o_typed, .int o_next_66, .int o_token_67, .int o_place_68, .int o_value_69, .int o_fault_70, .ref a_o_need, .ref a_o_made, .ref a_o_skillTold, .ref a_o_placeTold, .ref a_o_skips, .ref a_o_wheelTold, .int o_trades, .int o_people, .int o_draftTrades, .int o_draftPeople, .int (1 : Int32), .ref a_o_tunes, .ref a_o_s, .ref a_o_spare, .ref a_o_kept, .ref a_o_isKept, .ref a_o_makes, .ref a_o_works, .ref a_o_order, .int o_falling])), (a_o_text, .inl (cI, 400, .inl o_text)), (a_o_need, .inl (cI, 12, .inl o_need)), (a_o_made, .inl (cI, 12, .inl o_made)), (a_o_skillTold, .inl (cI, 72, .inl o_skillTold)), (a_o_placeTold, .inl (cI, 12, .inl o_placeTold)), (a_o_skips, .inl (cI, 12, .inl o_skips)), (a_o_wheelTold, .inl (cI, 12, .inl o_wheelTold))] := hD
                      have q0 := Option.some.inj hf
                      obtain ⟨e0, q1⟩ := Prod.mk.inj q0
                      obtain ⟨e1, q2⟩ := Prod.mk.inj q1
                      obtain ⟨e2, q3⟩ := Prod.mk.inj q2
                      obtain ⟨e3, q4⟩ := Prod.mk.inj q3
                      obtain ⟨e4, q5⟩ := Prod.mk.inj q4
                      obtain ⟨e5, q6⟩ := Prod.mk.inj q5
                      obtain ⟨e6, q7⟩ := Prod.mk.inj q6
                      obtain ⟨e7, q8⟩ := Prod.mk.inj q7
                      obtain ⟨e8, q9⟩ := Prod.mk.inj q8
                      obtain ⟨e9, q10⟩ := Prod.mk.inj q9
                      obtain ⟨e10, q11⟩ := Prod.mk.inj q10
                      obtain ⟨e11, q12⟩ := Prod.mk.inj q11
                      obtain ⟨e12, q13⟩ := Prod.mk.inj q12
                      subst e0
                      subst e1
                      subst e2
                      subst e3
                      subst e4
                      subst e5
                      subst e6
                      subst e7
                      subst e8
                      subst e9
                      subst e10
                      subst e11
                      subst e12
                      subst q13
                      exact gRv hx hb hr hlocks hP hS dX5_readsItem_301
                    · have hf := pit hf c_107
                      refine lv_iload_n hx hb dX5_readsItem_288 rfl (lv_at hl 4 rfl) ?_
                      refine lv_iconst (v := (1 : Int32)) hx hb dX5_readsItem_289 (by decide) ?_
                      refine lv_icmp_le (tgt := 297) hx hb dX5_readsItem_290 (by decide) (fun c_108 => ?_) (fun c_108 => ?_)
                      · have hf := pit hf c_108
                        refine lv_iconst (v := (0 : Int32)) hx hb dX5_readsItem_297 (by decide) ?_
                        refine va_put (D := (dC, dI)) (ci := 5) (v := .int (0 : Int32)) (ty := .boolean) (C := RX5) (T := TX5) (N := 29) hx hb hts uX5_readsItem_X5 tyX5 tyX5_ok nmX5 hown hK hP hD hS 0 rfl rfl 19 (by decide) (hts _ mX5_readsItem_2) (fun _ h9 => h9) rfl (by decide +kernel) rfl rfl (Nat.le_of_ble_eq_true rfl) dX5_readsItem_298 (fun H locs hP hD hS => ?_)
                        have hP : va_P (dC, dI) vwCl [(a_o, .inr (5, [.int o_thrown, .long o_trace, .ref a_o_text, .int o_typed, .int o_next_66, .int o_token_67, .int o_place_68, .int o_value_69, .int o_fault_70, .ref a_o_need, .ref a_o_made, .ref a_o_skillTold, .ref a_o_placeTold, .ref a_o_skips, .ref a_o_wheelTold, .int o_trades, .int o_people, .int o_draftTrades, .int o_draftPeople, .int (0 : Int32), .ref a_o_tunes, .ref a_o_s, .ref a_o_spare, .ref a_o_kept, .ref a_o_isKept, .ref a_o_makes, .ref a_o_works, .ref a_o_order, .int o_falling])), (a_o_text, .inl (cI, 400, .inl o_text)), (a_o_need, .inl (cI, 12, .inl o_need)), (a_o_made, .inl (cI, 12, .inl o_made)), (a_o_skillTold, .inl (cI, 72, .inl o_skillTold)), (a_o_placeTold, .inl (cI, 12, .inl o_placeTold)), (a_o_skips, .inl (cI, 12, .inl o_skips)), (a_o_wheelTold, .inl (cI, 12, .inl o_wheelTold))] H := hP
                        have hD : va_D A [(a_o, .inr (5, [.int o_thrown, .long o_trace, .ref a_o_text, .int o_typed, .int o_next_66, .int o_token_67, .int o_place_68, .int o_value_69, .int o_fault_70, .ref a_o_need, .ref a_o_made, .ref a_o_skillTold, .ref a_o_placeTold, .ref a_o_skips, .ref a_o_wheelTold, .int o_trades, .int o_people, .int o_draftTrades, .int o_draftPeople, .int (0 : Int32), .ref a_o_tunes, .ref a_o_s, .ref a_o_spare, .ref a_o_kept, .ref a_o_isKept, .ref a_o_makes, .ref a_o_works, .ref a_o_order, .int o_falling])), (a_o_text, .inl (cI, 400, .inl o_text)), (a_o_need, .inl (cI, 12, .inl o_need)), (a_o_made, .inl (cI, 12, .inl o_made)), (a_o_skillTold, .inl (cI, 72, .inl o_skillTold)), (a_o_placeTold, .inl (cI, 12, .inl o_placeTold)), (a_o_skips, .inl (cI, 12, .inl o_skips)), (a_o_wheelTold, .inl (cI, 12, .inl o_wheelTold))] := hD
                        have q0 := Option.some.inj hf
                        obtain ⟨e0, q1⟩ := Prod.mk.inj q0
                        obtain ⟨e1, q2⟩ := Prod.mk.inj q1
                        obtain ⟨e2, q3⟩ := Prod.mk.inj q2
                        obtain ⟨e3, q4⟩ := Prod.mk.inj q3
                        obtain ⟨e4, q5⟩ := Prod.mk.inj q4
                        obtain ⟨e5, q6⟩ := Prod.mk.inj q5
                        obtain ⟨e6, q7⟩ := Prod.mk.inj q6
                        obtain ⟨e7, q8⟩ := Prod.mk.inj q7
                        obtain ⟨e8, q9⟩ := Prod.mk.inj q8
                        obtain ⟨e9, q10⟩ := Prod.mk.inj q9
                        obtain ⟨e10, q11⟩ := Prod.mk.inj q10
                        obtain ⟨e11, q12⟩ := Prod.mk.inj q11
                        obtain ⟨e12, q13⟩ := Prod.mk.inj q12
                        subst e0
                        subst e1
                        subst e2
                        subst e3
                        subst e4
                        subst e5
                        subst e6
                        subst e7
                        subst e8
                        subst e9
                        subst e10
                        subst e11
                        subst e12
                        subst q13
                        exact gRv hx hb hr hlocks hP hS dX5_readsItem_301
                      · have hf := pif hf c_108
                        refine lv_iconst (v := (1 : Int32)) hx hb dX5_readsItem_293 (by decide) ?_
                        refine lv_goto (tgt := 298) hx hb dX5_readsItem_294 (by decide) ?_
                        refine va_put (D := (dC, dI)) (ci := 5) (v := .int (1 : Int32)) (ty := .boolean) (C := RX5) (T := TX5) (N := 29) hx hb hts uX5_readsItem_X5 tyX5 tyX5_ok nmX5 hown hK hP hD hS 0 rfl rfl 19 (by decide) (hts _ mX5_readsItem_2) (fun _ h9 => h9) rfl (by decide +kernel) rfl rfl (Nat.le_of_ble_eq_true rfl) dX5_readsItem_298 (fun H locs hP hD hS => ?_)
                        have hP : va_P (dC, dI) vwCl [(a_o, .inr (5, [.int o_thrown, .long o_trace, .ref a_o_text, .int o_typed, .int o_next_66, .int o_token_67, .int o_place_68, .int o_value_69, .int o_fault_70, .ref a_o_need, .ref a_o_made, .ref a_o_skillTold, .ref a_o_placeTold, .ref a_o_skips, .ref a_o_wheelTold, .int o_trades, .int o_people, .int o_draftTrades, .int o_draftPeople, .int (1 : Int32), .ref a_o_tunes, .ref a_o_s, .ref a_o_spare, .ref a_o_kept, .ref a_o_isKept, .ref a_o_makes, .ref a_o_works, .ref a_o_order, .int o_falling])), (a_o_text, .inl (cI, 400, .inl o_text)), (a_o_need, .inl (cI, 12, .inl o_need)), (a_o_made, .inl (cI, 12, .inl o_made)), (a_o_skillTold, .inl (cI, 72, .inl o_skillTold)), (a_o_placeTold, .inl (cI, 12, .inl o_placeTold)), (a_o_skips, .inl (cI, 12, .inl o_skips)), (a_o_wheelTold, .inl (cI, 12, .inl o_wheelTold))] H := hP
                        have hD : va_D A [(a_o, .inr (5, [.int o_thrown, .long o_trace, .ref a_o_text, .int o_typed, .int o_next_66, .int o_token_67, .int o_place_68, .int o_value_69, .int o_fault_70, .ref a_o_need, .ref a_o_made, .ref a_o_skillTold, .ref a_o_placeTold, .ref a_o_skips, .ref a_o_wheelTold, .int o_trades, .int o_people, .int o_draftTrades, .int o_draftPeople, .int (1 : Int32), .ref a_o_tunes, .ref a_o_s, .ref a_o_spare, .ref a_o_kept, .ref a_o_isKept, .ref a_o_makes, .ref a_o_works, .ref a_o_order, .int o_falling])), (a_o_text, .inl (cI, 400, .inl o_text)), (a_o_need, .inl (cI, 12, .inl o_need)), (a_o_made, .inl (cI, 12, .inl o_made)), (a_o_skillTold, .inl (cI, 72, .inl o_skillTold)), (a_o_placeTold, .inl (cI, 12, .inl o_placeTold)), (a_o_skips, .inl (cI, 12, .inl o_skips)), (a_o_wheelTold, .inl (cI, 12, .inl o_wheelTold))] := hD
                        have q0 := Option.some.inj hf
                        obtain ⟨e0, q1⟩ := Prod.mk.inj q0
                        obtain ⟨e1, q2⟩ := Prod.mk.inj q1
                        obtain ⟨e2, q3⟩ := Prod.mk.inj q2
                        obtain ⟨e3, q4⟩ := Prod.mk.inj q3
                        obtain ⟨e4, q5⟩ := Prod.mk.inj q4
                        obtain ⟨e5, q6⟩ := Prod.mk.inj q5
                        obtain ⟨e6, q7⟩ := Prod.mk.inj q6
                        obtain ⟨e7, q8⟩ := Prod.mk.inj q7
                        obtain ⟨e8, q9⟩ := Prod.mk.inj q8
                        obtain ⟨e9, q10⟩ := Prod.mk.inj q9
                        obtain ⟨e10, q11⟩ := Prod.mk.inj q10
                        obtain ⟨e11, q12⟩ := Prod.mk.inj q11
                        obtain ⟨e12, q13⟩ := Prod.mk.inj q12
                        subst e0
                        subst e1
                        subst e2
                        subst e3
                        subst e4
                        subst e5
                        subst e6
                        subst e7
                        subst e8
                        subst e9
                        subst e10
                        subst e11
                        subst e12
                        subst q13
                        exact gRv hx hb hr hlocks hP hS dX5_readsItem_301
                  · have hf := pif hf c_106
                    refine lv_aload_n hx hb dX5_readsItem_270 rfl (lv_at hl 3 rfl) ?_
                    refine va_get (D := (dC, dI)) (ci := 5) (v := .ref a_o_placeTold) (C := RX5) (T := TX5) (N := 29) hx hb hts uX5_readsItem_X5 hown hK hP 0 rfl rfl 12 (by decide) (hts _ mX5_readsItem_3) (fun _ h9 => h9) rfl dX5_readsItem_271 ?_
                    refine lv_bipush (v := (6 : Int32)) hx hb dX5_readsItem_274 (by decide) ?_
                    refine lv_iload_n hx hb dX5_readsItem_276 rfl (lv_at hl 2 rfl) ?_
                    refine lv_iadd hx hb dX5_readsItem_277 ?_
                    refine lv_iload_n hx hb dX5_readsItem_278 rfl (lv_at hl 1 rfl) ?_
                    obtain ⟨h_109, hf⟩ := pgd hf
                    refine va_iast hx hb hK hP hD hS 5 1 rfl rfl h_109 dX5_readsItem_279 (fun H locs hP hD hS => ?_)
                    have hP : va_P (dC, dI) vwCl [(a_o, .inr (5, [.int o_thrown, .long o_trace, .ref a_o_text, .int o_typed, .int o_next_66, .int o_token_67, .int o_place_68, .int o_value_69, .int o_fault_70, .ref a_o_need, .ref a_o_made, .ref a_o_skillTold, .ref a_o_placeTold, .ref a_o_skips, .ref a_o_wheelTold, .int o_trades, .int o_people, .int o_draftTrades, .int o_draftPeople, .int o_isShut, .ref a_o_tunes, .ref a_o_s, .ref a_o_spare, .ref a_o_kept, .ref a_o_isKept, .ref a_o_makes, .ref a_o_works, .ref a_o_order, .int o_falling])), (a_o_text, .inl (cI, 400, .inl o_text)), (a_o_need, .inl (cI, 12, .inl o_need)), (a_o_made, .inl (cI, 12, .inl o_made)), (a_o_skillTold, .inl (cI, 72, .inl o_skillTold)), (a_o_placeTold, .inl (cI, 12, .inl (upd o_placeTold ((6 : Int32) + r_4).toNatClampNeg r_10))), (a_o_skips, .inl (cI, 12, .inl o_skips)), (a_o_wheelTold, .inl (cI, 12, .inl o_wheelTold))] H := hP
                    have hD : va_D A [(a_o, .inr (5, [.int o_thrown, .long o_trace, .ref a_o_text, .int o_typed, .int o_next_66, .int o_token_67, .int o_place_68, .int o_value_69, .int o_fault_70, .ref a_o_need, .ref a_o_made, .ref a_o_skillTold, .ref a_o_placeTold, .ref a_o_skips, .ref a_o_wheelTold, .int o_trades, .int o_people, .int o_draftTrades, .int o_draftPeople, .int o_isShut, .ref a_o_tunes, .ref a_o_s, .ref a_o_spare, .ref a_o_kept, .ref a_o_isKept, .ref a_o_makes, .ref a_o_works, .ref a_o_order, .int o_falling])), (a_o_text, .inl (cI, 400, .inl o_text)), (a_o_need, .inl (cI, 12, .inl o_need)), (a_o_made, .inl (cI, 12, .inl o_made)), (a_o_skillTold, .inl (cI, 72, .inl o_skillTold)), (a_o_placeTold, .inl (cI, 12, .inl (upd o_placeTold ((6 : Int32) + r_4).toNatClampNeg r_10))), (a_o_skips, .inl (cI, 12, .inl o_skips)), (a_o_wheelTold, .inl (cI, 12, .inl o_wheelTold))] := hD
                    refine lv_aload_n hx hb dX5_readsItem_280 rfl (lv_at hl 3 rfl) ?_
                    refine lv_aload_n hx hb dX5_readsItem_281 rfl (lv_at hl 3 rfl) ?_
                    refine va_get (D := (dC, dI)) (ci := 5) (v := .int o_isShut) (C := RX5) (T := TX5) (N := 29) hx hb hts uX5_readsItem_X5 hown hK hP 0 rfl rfl 19 (by decide) (hts _ mX5_readsItem_2) (fun _ h9 => h9) rfl dX5_readsItem_282 ?_
                    refine lv_if_ne (tgt := 293) hx hb dX5_readsItem_285 (by decide) (fun c_110 => ?_) (fun c_110 => ?_)
                    · have hf := pif hf c_110
                      refine lv_iconst (v := (1 : Int32)) hx hb dX5_readsItem_293 (by decide) ?_
                      refine lv_goto (tgt := 298) hx hb dX5_readsItem_294 (by decide) ?_
                      refine va_put (D := (dC, dI)) (ci := 5) (v := .int (1 : Int32)) (ty := .boolean) (C := RX5) (T := TX5) (N := 29) hx hb hts uX5_readsItem_X5 tyX5 tyX5_ok nmX5 hown hK hP hD hS 0 rfl rfl 19 (by decide) (hts _ mX5_readsItem_2) (fun _ h9 => h9) rfl (by decide +kernel) rfl rfl (Nat.le_of_ble_eq_true rfl) dX5_readsItem_298 (fun H locs hP hD hS => ?_)
                      have hP : va_P (dC, dI) vwCl [(a_o, .inr (5, [.int o_thrown, .long o_trace, .ref a_o_text, .int o_typed, .int o_next_66, .int o_token_67, .int o_place_68, .int o_value_69, .int o_fault_70, .ref a_o_need, .ref a_o_made, .ref a_o_skillTold, .ref a_o_placeTold, .ref a_o_skips, .ref a_o_wheelTold, .int o_trades, .int o_people, .int o_draftTrades, .int o_draftPeople, .int (1 : Int32), .ref a_o_tunes, .ref a_o_s, .ref a_o_spare, .ref a_o_kept, .ref a_o_isKept, .ref a_o_makes, .ref a_o_works, .ref a_o_order, .int o_falling])), (a_o_text, .inl (cI, 400, .inl o_text)), (a_o_need, .inl (cI, 12, .inl o_need)), (a_o_made, .inl (cI, 12, .inl o_made)), (a_o_skillTold, .inl (cI, 72, .inl o_skillTold)), (a_o_placeTold, .inl (cI, 12, .inl (upd o_placeTold ((6 : Int32) + r_4).toNatClampNeg r_10))), (a_o_skips, .inl (cI, 12, .inl o_skips)), (a_o_wheelTold, .inl (cI, 12, .inl o_wheelTold))] H := hP
                      have hD : va_D A [(a_o, .inr (5, [.int o_thrown, .long o_trace, .ref a_o_text, .int o_typed, .int o_next_66, .int o_token_67, .int o_place_68, .int o_value_69, .int o_fault_70, .ref a_o_need, .ref a_o_made, .ref a_o_skillTold, .ref a_o_placeTold, .ref a_o_skips, .ref a_o_wheelTold, .int o_trades, .int o_people, .int o_draftTrades, .int o_draftPeople, .int (1 : Int32), .ref a_o_tunes, .ref a_o_s, .ref a_o_spare, .ref a_o_kept, .ref a_o_isKept, .ref a_o_makes, .ref a_o_works, .ref a_o_order, .int o_falling])), (a_o_text, .inl (cI, 400, .inl o_text)), (a_o_need, .inl (cI, 12, .inl o_need)), (a_o_made, .inl (cI, 12, .inl o_made)), (a_o_skillTold, .inl (cI, 72, .inl o_skillTold)), (a_o_placeTold, .inl (cI, 12, .inl (upd o_placeTold ((6 : Int32) + r_4).toNatClampNeg r_10))), (a_o_skips, .inl (cI, 12, .inl o_skips)), (a_o_wheelTold, .inl (cI, 12, .inl o_wheelTold))] := hD
                      have q0 := Option.some.inj hf
                      obtain ⟨e0, q1⟩ := Prod.mk.inj q0
                      obtain ⟨e1, q2⟩ := Prod.mk.inj q1
                      obtain ⟨e2, q3⟩ := Prod.mk.inj q2
                      obtain ⟨e3, q4⟩ := Prod.mk.inj q3
                      obtain ⟨e4, q5⟩ := Prod.mk.inj q4
                      obtain ⟨e5, q6⟩ := Prod.mk.inj q5
                      obtain ⟨e6, q7⟩ := Prod.mk.inj q6
                      obtain ⟨e7, q8⟩ := Prod.mk.inj q7
                      obtain ⟨e8, q9⟩ := Prod.mk.inj q8
                      obtain ⟨e9, q10⟩ := Prod.mk.inj q9
                      obtain ⟨e10, q11⟩ := Prod.mk.inj q10
                      obtain ⟨e11, q12⟩ := Prod.mk.inj q11
                      obtain ⟨e12, q13⟩ := Prod.mk.inj q12
                      subst e0
                      subst e1
                      subst e2
                      subst e3
                      subst e4
                      subst e5
                      subst e6
                      subst e7
                      subst e8
                      subst e9
                      subst e10
                      subst e11
                      subst e12
                      subst q13
                      exact gRv hx hb hr hlocks hP hS dX5_readsItem_301
                    · have hf := pit hf c_110
                      refine lv_iload_n hx hb dX5_readsItem_288 rfl (lv_at hl 4 rfl) ?_
                      refine lv_iconst (v := (1 : Int32)) hx hb dX5_readsItem_289 (by decide) ?_
                      refine lv_icmp_le (tgt := 297) hx hb dX5_readsItem_290 (by decide) (fun c_111 => ?_) (fun c_111 => ?_)
                      · have hf := pit hf c_111
                        refine lv_iconst (v := (0 : Int32)) hx hb dX5_readsItem_297 (by decide) ?_
                        refine va_put (D := (dC, dI)) (ci := 5) (v := .int (0 : Int32)) (ty := .boolean) (C := RX5) (T := TX5) (N := 29) hx hb hts uX5_readsItem_X5 tyX5 tyX5_ok nmX5 hown hK hP hD hS 0 rfl rfl 19 (by decide) (hts _ mX5_readsItem_2) (fun _ h9 => h9) rfl (by decide +kernel) rfl rfl (Nat.le_of_ble_eq_true rfl) dX5_readsItem_298 (fun H locs hP hD hS => ?_)
                        have hP : va_P (dC, dI) vwCl [(a_o, .inr (5, [.int o_thrown, .long o_trace, .ref a_o_text, .int o_typed, .int o_next_66, .int o_token_67, .int o_place_68, .int o_value_69, .int o_fault_70, .ref a_o_need, .ref a_o_made, .ref a_o_skillTold, .ref a_o_placeTold, .ref a_o_skips, .ref a_o_wheelTold, .int o_trades, .int o_people, .int o_draftTrades, .int o_draftPeople, .int (0 : Int32), .ref a_o_tunes, .ref a_o_s, .ref a_o_spare, .ref a_o_kept, .ref a_o_isKept, .ref a_o_makes, .ref a_o_works, .ref a_o_order, .int o_falling])), (a_o_text, .inl (cI, 400, .inl o_text)), (a_o_need, .inl (cI, 12, .inl o_need)), (a_o_made, .inl (cI, 12, .inl o_made)), (a_o_skillTold, .inl (cI, 72, .inl o_skillTold)), (a_o_placeTold, .inl (cI, 12, .inl (upd o_placeTold ((6 : Int32) + r_4).toNatClampNeg r_10))), (a_o_skips, .inl (cI, 12, .inl o_skips)), (a_o_wheelTold, .inl (cI, 12, .inl o_wheelTold))] H := hP
                        have hD : va_D A [(a_o, .inr (5, [.int o_thrown, .long o_trace, .ref a_o_text, .int o_typed, .int o_next_66, .int o_token_67, .int o_place_68, .int o_value_69, .int o_fault_70, .ref a_o_need, .ref a_o_made, .ref a_o_skillTold, .ref a_o_placeTold, .ref a_o_skips, .ref a_o_wheelTold, .int o_trades, .int o_people, .int o_draftTrades, .int o_draftPeople, .int (0 : Int32), .ref a_o_tunes, .ref a_o_s, .ref a_o_spare, .ref a_o_kept, .ref a_o_isKept, .ref a_o_makes, .ref a_o_works, .ref a_o_order, .int o_falling])), (a_o_text, .inl (cI, 400, .inl o_text)), (a_o_need, .inl (cI, 12, .inl o_need)), (a_o_made, .inl (cI, 12, .inl o_made)), (a_o_skillTold, .inl (cI, 72, .inl o_skillTold)), (a_o_placeTold, .inl (cI, 12, .inl (upd o_placeTold ((6 : Int32) + r_4).toNatClampNeg r_10))), (a_o_skips, .inl (cI, 12, .inl o_skips)), (a_o_wheelTold, .inl (cI, 12, .inl o_wheelTold))] := hD
                        have q0 := Option.some.inj hf
                        obtain ⟨e0, q1⟩ := Prod.mk.inj q0
                        obtain ⟨e1, q2⟩ := Prod.mk.inj q1
                        obtain ⟨e2, q3⟩ := Prod.mk.inj q2
                        obtain ⟨e3, q4⟩ := Prod.mk.inj q3
                        obtain ⟨e4, q5⟩ := Prod.mk.inj q4
                        obtain ⟨e5, q6⟩ := Prod.mk.inj q5
                        obtain ⟨e6, q7⟩ := Prod.mk.inj q6
                        obtain ⟨e7, q8⟩ := Prod.mk.inj q7
                        obtain ⟨e8, q9⟩ := Prod.mk.inj q8
                        obtain ⟨e9, q10⟩ := Prod.mk.inj q9
                        obtain ⟨e10, q11⟩ := Prod.mk.inj q10
                        obtain ⟨e11, q12⟩ := Prod.mk.inj q11
                        obtain ⟨e12, q13⟩ := Prod.mk.inj q12
                        subst e0
                        subst e1
                        subst e2
                        subst e3
                        subst e4
                        subst e5
                        subst e6
                        subst e7
                        subst e8
                        subst e9
                        subst e10
                        subst e11
                        subst e12
                        subst q13
                        exact gRv hx hb hr hlocks hP hS dX5_readsItem_301
                      · have hf := pif hf c_111
                        refine lv_iconst (v := (1 : Int32)) hx hb dX5_readsItem_293 (by decide) ?_
                        refine lv_goto (tgt := 298) hx hb dX5_readsItem_294 (by decide) ?_
                        refine va_put (D := (dC, dI)) (ci := 5) (v := .int (1 : Int32)) (ty := .boolean) (C := RX5) (T := TX5) (N := 29) hx hb hts uX5_readsItem_X5 tyX5 tyX5_ok nmX5 hown hK hP hD hS 0 rfl rfl 19 (by decide) (hts _ mX5_readsItem_2) (fun _ h9 => h9) rfl (by decide +kernel) rfl rfl (Nat.le_of_ble_eq_true rfl) dX5_readsItem_298 (fun H locs hP hD hS => ?_)
                        have hP : va_P (dC, dI) vwCl [(a_o, .inr (5, [.int o_thrown, .long o_trace, .ref a_o_text, .int o_typed, .int o_next_66, .int o_token_67, .int o_place_68, .int o_value_69, .int o_fault_70, .ref a_o_need, .ref a_o_made, .ref a_o_skillTold, .ref a_o_placeTold, .ref a_o_skips, .ref a_o_wheelTold, .int o_trades, .int o_people, .int o_draftTrades, .int o_draftPeople, .int (1 : Int32), .ref a_o_tunes, .ref a_o_s, .ref a_o_spare, .ref a_o_kept, .ref a_o_isKept, .ref a_o_makes, .ref a_o_works, .ref a_o_order, .int o_falling])), (a_o_text, .inl (cI, 400, .inl o_text)), (a_o_need, .inl (cI, 12, .inl o_need)), (a_o_made, .inl (cI, 12, .inl o_made)), (a_o_skillTold, .inl (cI, 72, .inl o_skillTold)), (a_o_placeTold, .inl (cI, 12, .inl (upd o_placeTold ((6 : Int32) + r_4).toNatClampNeg r_10))), (a_o_skips, .inl (cI, 12, .inl o_skips)), (a_o_wheelTold, .inl (cI, 12, .inl o_wheelTold))] H := hP
                        have hD : va_D A [(a_o, .inr (5, [.int o_thrown, .long o_trace, .ref a_o_text, .int o_typed, .int o_next_66, .int o_token_67, .int o_place_68, .int o_value_69, .int o_fault_70, .ref a_o_need, .ref a_o_made, .ref a_o_skillTold, .ref a_o_placeTold, .ref a_o_skips, .ref a_o_wheelTold, .int o_trades, .int o_people, .int o_draftTrades, .int o_draftPeople, .int (1 : Int32), .ref a_o_tunes, .ref a_o_s, .ref a_o_spare, .ref a_o_kept, .ref a_o_isKept, .ref a_o_makes, .ref a_o_works, .ref a_o_order, .int o_falling])), (a_o_text, .inl (cI, 400, .inl o_text)), (a_o_need, .inl (cI, 12, .inl o_need)), (a_o_made, .inl (cI, 12, .inl o_made)), (a_o_skillTold, .inl (cI, 72, .inl o_skillTold)), (a_o_placeTold, .inl (cI, 12, .inl (upd o_placeTold ((6 : Int32) + r_4).toNatClampNeg r_10))), (a_o_skips, .inl (cI, 12, .inl o_skips)), (a_o_wheelTold, .inl (cI, 12, .inl o_wheelTold))] := hD
                        have q0 := Option.some.inj hf
                        obtain ⟨e0, q1⟩ := Prod.mk.inj q0
                        obtain ⟨e1, q2⟩ := Prod.mk.inj q1
                        obtain ⟨e2, q3⟩ := Prod.mk.inj q2
                        obtain ⟨e3, q4⟩ := Prod.mk.inj q3
                        obtain ⟨e4, q5⟩ := Prod.mk.inj q4
                        obtain ⟨e5, q6⟩ := Prod.mk.inj q5
                        obtain ⟨e6, q7⟩ := Prod.mk.inj q6
                        obtain ⟨e7, q8⟩ := Prod.mk.inj q7
                        obtain ⟨e8, q9⟩ := Prod.mk.inj q8
                        obtain ⟨e9, q10⟩ := Prod.mk.inj q9
                        obtain ⟨e10, q11⟩ := Prod.mk.inj q10
                        obtain ⟨e11, q12⟩ := Prod.mk.inj q11
                        obtain ⟨e12, q13⟩ := Prod.mk.inj q12
                        subst e0
                        subst e1
                        subst e2
                        subst e3
                        subst e4
                        subst e5
                        subst e6
                        subst e7
                        subst e8
                        subst e9
                        subst e10
                        subst e11
                        subst e12
                        subst q13
                        exact gRv hx hb hr hlocks hP hS dX5_readsItem_301
                · have hf := pit hf c_104
                  refine lv_aload_n hx hb dX5_readsItem_245 rfl (lv_at hl 3 rfl) ?_
                  refine va_get (D := (dC, dI)) (ci := 5) (v := .ref a_o_skips) (C := RX5) (T := TX5) (N := 29) hx hb hts uX5_readsItem_X5 hown hK hP 0 rfl rfl 13 (by decide) (hts _ mX5_readsItem_4) (fun _ h9 => h9) rfl dX5_readsItem_246 ?_
                  refine lv_bipush (v := (6 : Int32)) hx hb dX5_readsItem_249 (by decide) ?_
                  refine lv_iload_n hx hb dX5_readsItem_251 rfl (lv_at hl 2 rfl) ?_
                  refine lv_iadd hx hb dX5_readsItem_252 ?_
                  refine lv_dup2_11 hx hb dX5_readsItem_253 rfl rfl ?_
                  obtain ⟨h_112, hf⟩ := pgd hf
                  refine va_iald hx hb hK hP 6 1 rfl rfl h_112 dX5_readsItem_254 ?_
                  refine lv_iconst (v := (1 : Int32)) hx hb dX5_readsItem_255 (by decide) ?_
                  refine lv_iload_n hx hb dX5_readsItem_256 rfl (lv_at hl 1 rfl) ?_
                  refine lv_ishl hx hb dX5_readsItem_257 ?_
                  refine lv_ior hx hb dX5_readsItem_258 ?_
                  obtain ⟨h_113, hf⟩ := pgd hf
                  refine va_iast hx hb hK hP hD hS 6 1 rfl rfl h_113 dX5_readsItem_259 (fun H locs hP hD hS => ?_)
                  have hP : va_P (dC, dI) vwCl [(a_o, .inr (5, [.int o_thrown, .long o_trace, .ref a_o_text, .int o_typed, .int o_next_66, .int o_token_67, .int o_place_68, .int o_value_69, .int o_fault_70, .ref a_o_need, .ref a_o_made, .ref a_o_skillTold, .ref a_o_placeTold, .ref a_o_skips, .ref a_o_wheelTold, .int o_trades, .int o_people, .int o_draftTrades, .int o_draftPeople, .int o_isShut, .ref a_o_tunes, .ref a_o_s, .ref a_o_spare, .ref a_o_kept, .ref a_o_isKept, .ref a_o_makes, .ref a_o_works, .ref a_o_order, .int o_falling])), (a_o_text, .inl (cI, 400, .inl o_text)), (a_o_need, .inl (cI, 12, .inl o_need)), (a_o_made, .inl (cI, 12, .inl o_made)), (a_o_skillTold, .inl (cI, 72, .inl o_skillTold)), (a_o_placeTold, .inl (cI, 12, .inl o_placeTold)), (a_o_skips, .inl (cI, 12, .inl (upd o_skips ((6 : Int32) + r_4).toNatClampNeg ((o_skips ((6 : Int32) + r_4).toNatClampNeg) ||| ((1 : Int32) <<< (r_10 &&& 31)))))), (a_o_wheelTold, .inl (cI, 12, .inl o_wheelTold))] H := hP
                  have hD : va_D A [(a_o, .inr (5, [.int o_thrown, .long o_trace, .ref a_o_text, .int o_typed, .int o_next_66, .int o_token_67, .int o_place_68, .int o_value_69, .int o_fault_70, .ref a_o_need, .ref a_o_made, .ref a_o_skillTold, .ref a_o_placeTold, .ref a_o_skips, .ref a_o_wheelTold, .int o_trades, .int o_people, .int o_draftTrades, .int o_draftPeople, .int o_isShut, .ref a_o_tunes, .ref a_o_s, .ref a_o_spare, .ref a_o_kept, .ref a_o_isKept, .ref a_o_makes, .ref a_o_works, .ref a_o_order, .int o_falling])), (a_o_text, .inl (cI, 400, .inl o_text)), (a_o_need, .inl (cI, 12, .inl o_need)), (a_o_made, .inl (cI, 12, .inl o_made)), (a_o_skillTold, .inl (cI, 72, .inl o_skillTold)), (a_o_placeTold, .inl (cI, 12, .inl o_placeTold)), (a_o_skips, .inl (cI, 12, .inl (upd o_skips ((6 : Int32) + r_4).toNatClampNeg ((o_skips ((6 : Int32) + r_4).toNatClampNeg) ||| ((1 : Int32) <<< (r_10 &&& 31)))))), (a_o_wheelTold, .inl (cI, 12, .inl o_wheelTold))] := hD
                  refine lv_goto (tgt := 280) hx hb dX5_readsItem_260 (by decide) ?_
                  refine lv_aload_n hx hb dX5_readsItem_280 rfl (lv_at hl 3 rfl) ?_
                  refine lv_aload_n hx hb dX5_readsItem_281 rfl (lv_at hl 3 rfl) ?_
                  refine va_get (D := (dC, dI)) (ci := 5) (v := .int o_isShut) (C := RX5) (T := TX5) (N := 29) hx hb hts uX5_readsItem_X5 hown hK hP 0 rfl rfl 19 (by decide) (hts _ mX5_readsItem_2) (fun _ h9 => h9) rfl dX5_readsItem_282 ?_
                  refine lv_if_ne (tgt := 293) hx hb dX5_readsItem_285 (by decide) (fun c_114 => ?_) (fun c_114 => ?_)
                  · have hf := pif hf c_114
                    refine lv_iconst (v := (1 : Int32)) hx hb dX5_readsItem_293 (by decide) ?_
                    refine lv_goto (tgt := 298) hx hb dX5_readsItem_294 (by decide) ?_
                    refine va_put (D := (dC, dI)) (ci := 5) (v := .int (1 : Int32)) (ty := .boolean) (C := RX5) (T := TX5) (N := 29) hx hb hts uX5_readsItem_X5 tyX5 tyX5_ok nmX5 hown hK hP hD hS 0 rfl rfl 19 (by decide) (hts _ mX5_readsItem_2) (fun _ h9 => h9) rfl (by decide +kernel) rfl rfl (Nat.le_of_ble_eq_true rfl) dX5_readsItem_298 (fun H locs hP hD hS => ?_)
                    have hP : va_P (dC, dI) vwCl [(a_o, .inr (5, [.int o_thrown, .long o_trace, .ref a_o_text, .int o_typed, .int o_next_66, .int o_token_67, .int o_place_68, .int o_value_69, .int o_fault_70, .ref a_o_need, .ref a_o_made, .ref a_o_skillTold, .ref a_o_placeTold, .ref a_o_skips, .ref a_o_wheelTold, .int o_trades, .int o_people, .int o_draftTrades, .int o_draftPeople, .int (1 : Int32), .ref a_o_tunes, .ref a_o_s, .ref a_o_spare, .ref a_o_kept, .ref a_o_isKept, .ref a_o_makes, .ref a_o_works, .ref a_o_order, .int o_falling])), (a_o_text, .inl (cI, 400, .inl o_text)), (a_o_need, .inl (cI, 12, .inl o_need)), (a_o_made, .inl (cI, 12, .inl o_made)), (a_o_skillTold, .inl (cI, 72, .inl o_skillTold)), (a_o_placeTold, .inl (cI, 12, .inl o_placeTold)), (a_o_skips, .inl (cI, 12, .inl (upd o_skips ((6 : Int32) + r_4).toNatClampNeg ((o_skips ((6 : Int32) + r_4).toNatClampNeg) ||| ((1 : Int32) <<< (r_10 &&& 31)))))), (a_o_wheelTold, .inl (cI, 12, .inl o_wheelTold))] H := hP
                    have hD : va_D A [(a_o, .inr (5, [.int o_thrown, .long o_trace, .ref a_o_text, .int o_typed, .int o_next_66, .int o_token_67, .int o_place_68, .int o_value_69, .int o_fault_70, .ref a_o_need, .ref a_o_made, .ref a_o_skillTold, .ref a_o_placeTold, .ref a_o_skips, .ref a_o_wheelTold, .int o_trades, .int o_people, .int o_draftTrades, .int o_draftPeople, .int (1 : Int32), .ref a_o_tunes, .ref a_o_s, .ref a_o_spare, .ref a_o_kept, .ref a_o_isKept, .ref a_o_makes, .ref a_o_works, .ref a_o_order, .int o_falling])), (a_o_text, .inl (cI, 400, .inl o_text)), (a_o_need, .inl (cI, 12, .inl o_need)), (a_o_made, .inl (cI, 12, .inl o_made)), (a_o_skillTold, .inl (cI, 72, .inl o_skillTold)), (a_o_placeTold, .inl (cI, 12, .inl o_placeTold)), (a_o_skips, .inl (cI, 12, .inl (upd o_skips ((6 : Int32) + r_4).toNatClampNeg ((o_skips ((6 : Int32) + r_4).toNatClampNeg) ||| ((1 : Int32) <<< (r_10 &&& 31)))))), (a_o_wheelTold, .inl (cI, 12, .inl o_wheelTold))] := hD
                    have q0 := Option.some.inj hf
                    obtain ⟨e0, q1⟩ := Prod.mk.inj q0
                    obtain ⟨e1, q2⟩ := Prod.mk.inj q1
                    obtain ⟨e2, q3⟩ := Prod.mk.inj q2
                    obtain ⟨e3, q4⟩ := Prod.mk.inj q3
                    obtain ⟨e4, q5⟩ := Prod.mk.inj q4
                    obtain ⟨e5, q6⟩ := Prod.mk.inj q5
                    obtain ⟨e6, q7⟩ := Prod.mk.inj q6
                    obtain ⟨e7, q8⟩ := Prod.mk.inj q7
                    obtain ⟨e8, q9⟩ := Prod.mk.inj q8
                    obtain ⟨e9, q10⟩ := Prod.mk.inj q9
                    obtain ⟨e10, q11⟩ := Prod.mk.inj q10
                    obtain ⟨e11, q12⟩ := Prod.mk.inj q11
                    obtain ⟨e12, q13⟩ := Prod.mk.inj q12
                    subst e0
                    subst e1
                    subst e2
                    subst e3
                    subst e4
                    subst e5
                    subst e6
                    subst e7
                    subst e8
                    subst e9
                    subst e10
                    subst e11
                    subst e12
                    subst q13
                    exact gRv hx hb hr hlocks hP hS dX5_readsItem_301
                  · have hf := pit hf c_114
                    refine lv_iload_n hx hb dX5_readsItem_288 rfl (lv_at hl 4 rfl) ?_
                    refine lv_iconst (v := (1 : Int32)) hx hb dX5_readsItem_289 (by decide) ?_
                    refine lv_icmp_le (tgt := 297) hx hb dX5_readsItem_290 (by decide) (fun c_115 => ?_) (fun c_115 => ?_)
                    · have hf := pit hf c_115
                      refine lv_iconst (v := (0 : Int32)) hx hb dX5_readsItem_297 (by decide) ?_
                      refine va_put (D := (dC, dI)) (ci := 5) (v := .int (0 : Int32)) (ty := .boolean) (C := RX5) (T := TX5) (N := 29) hx hb hts uX5_readsItem_X5 tyX5 tyX5_ok nmX5 hown hK hP hD hS 0 rfl rfl 19 (by decide) (hts _ mX5_readsItem_2) (fun _ h9 => h9) rfl (by decide +kernel) rfl rfl (Nat.le_of_ble_eq_true rfl) dX5_readsItem_298 (fun H locs hP hD hS => ?_)
                      have hP : va_P (dC, dI) vwCl [(a_o, .inr (5, [.int o_thrown, .long o_trace, .ref a_o_text, .int o_typed, .int o_next_66, .int o_token_67, .int o_place_68, .int o_value_69, .int o_fault_70, .ref a_o_need, .ref a_o_made, .ref a_o_skillTold, .ref a_o_placeTold, .ref a_o_skips, .ref a_o_wheelTold, .int o_trades, .int o_people, .int o_draftTrades, .int o_draftPeople, .int (0 : Int32), .ref a_o_tunes, .ref a_o_s, .ref a_o_spare, .ref a_o_kept, .ref a_o_isKept, .ref a_o_makes, .ref a_o_works, .ref a_o_order, .int o_falling])), (a_o_text, .inl (cI, 400, .inl o_text)), (a_o_need, .inl (cI, 12, .inl o_need)), (a_o_made, .inl (cI, 12, .inl o_made)), (a_o_skillTold, .inl (cI, 72, .inl o_skillTold)), (a_o_placeTold, .inl (cI, 12, .inl o_placeTold)), (a_o_skips, .inl (cI, 12, .inl (upd o_skips ((6 : Int32) + r_4).toNatClampNeg ((o_skips ((6 : Int32) + r_4).toNatClampNeg) ||| ((1 : Int32) <<< (r_10 &&& 31)))))), (a_o_wheelTold, .inl (cI, 12, .inl o_wheelTold))] H := hP
                      have hD : va_D A [(a_o, .inr (5, [.int o_thrown, .long o_trace, .ref a_o_text, .int o_typed, .int o_next_66, .int o_token_67, .int o_place_68, .int o_value_69, .int o_fault_70, .ref a_o_need, .ref a_o_made, .ref a_o_skillTold, .ref a_o_placeTold, .ref a_o_skips, .ref a_o_wheelTold, .int o_trades, .int o_people, .int o_draftTrades, .int o_draftPeople, .int (0 : Int32), .ref a_o_tunes, .ref a_o_s, .ref a_o_spare, .ref a_o_kept, .ref a_o_isKept, .ref a_o_makes, .ref a_o_works, .ref a_o_order, .int o_falling])), (a_o_text, .inl (cI, 400, .inl o_text)), (a_o_need, .inl (cI, 12, .inl o_need)), (a_o_made, .inl (cI, 12, .inl o_made)), (a_o_skillTold, .inl (cI, 72, .inl o_skillTold)), (a_o_placeTold, .inl (cI, 12, .inl o_placeTold)), (a_o_skips, .inl (cI, 12, .inl (upd o_skips ((6 : Int32) + r_4).toNatClampNeg ((o_skips ((6 : Int32) + r_4).toNatClampNeg) ||| ((1 : Int32) <<< (r_10 &&& 31)))))), (a_o_wheelTold, .inl (cI, 12, .inl o_wheelTold))] := hD
                      have q0 := Option.some.inj hf
                      obtain ⟨e0, q1⟩ := Prod.mk.inj q0
                      obtain ⟨e1, q2⟩ := Prod.mk.inj q1
                      obtain ⟨e2, q3⟩ := Prod.mk.inj q2
                      obtain ⟨e3, q4⟩ := Prod.mk.inj q3
                      obtain ⟨e4, q5⟩ := Prod.mk.inj q4
                      obtain ⟨e5, q6⟩ := Prod.mk.inj q5
                      obtain ⟨e6, q7⟩ := Prod.mk.inj q6
                      obtain ⟨e7, q8⟩ := Prod.mk.inj q7
                      obtain ⟨e8, q9⟩ := Prod.mk.inj q8
                      obtain ⟨e9, q10⟩ := Prod.mk.inj q9
                      obtain ⟨e10, q11⟩ := Prod.mk.inj q10
                      obtain ⟨e11, q12⟩ := Prod.mk.inj q11
                      obtain ⟨e12, q13⟩ := Prod.mk.inj q12
                      subst e0
                      subst e1
                      subst e2
                      subst e3
                      subst e4
                      subst e5
                      subst e6
                      subst e7
                      subst e8
                      subst e9
                      subst e10
                      subst e11
                      subst e12
                      subst q13
                      exact gRv hx hb hr hlocks hP hS dX5_readsItem_301
                    · have hf := pif hf c_115
                      refine lv_iconst (v := (1 : Int32)) hx hb dX5_readsItem_293 (by decide) ?_
                      refine lv_goto (tgt := 298) hx hb dX5_readsItem_294 (by decide) ?_
                      refine va_put (D := (dC, dI)) (ci := 5) (v := .int (1 : Int32)) (ty := .boolean) (C := RX5) (T := TX5) (N := 29) hx hb hts uX5_readsItem_X5 tyX5 tyX5_ok nmX5 hown hK hP hD hS 0 rfl rfl 19 (by decide) (hts _ mX5_readsItem_2) (fun _ h9 => h9) rfl (by decide +kernel) rfl rfl (Nat.le_of_ble_eq_true rfl) dX5_readsItem_298 (fun H locs hP hD hS => ?_)
                      have hP : va_P (dC, dI) vwCl [(a_o, .inr (5, [.int o_thrown, .long o_trace, .ref a_o_text, .int o_typed, .int o_next_66, .int o_token_67, .int o_place_68, .int o_value_69, .int o_fault_70, .ref a_o_need, .ref a_o_made, .ref a_o_skillTold, .ref a_o_placeTold, .ref a_o_skips, .ref a_o_wheelTold, .int o_trades, .int o_people, .int o_draftTrades, .int o_draftPeople, .int (1 : Int32), .ref a_o_tunes, .ref a_o_s, .ref a_o_spare, .ref a_o_kept, .ref a_o_isKept, .ref a_o_makes, .ref a_o_works, .ref a_o_order, .int o_falling])), (a_o_text, .inl (cI, 400, .inl o_text)), (a_o_need, .inl (cI, 12, .inl o_need)), (a_o_made, .inl (cI, 12, .inl o_made)), (a_o_skillTold, .inl (cI, 72, .inl o_skillTold)), (a_o_placeTold, .inl (cI, 12, .inl o_placeTold)), (a_o_skips, .inl (cI, 12, .inl (upd o_skips ((6 : Int32) + r_4).toNatClampNeg ((o_skips ((6 : Int32) + r_4).toNatClampNeg) ||| ((1 : Int32) <<< (r_10 &&& 31)))))), (a_o_wheelTold, .inl (cI, 12, .inl o_wheelTold))] H := hP
                      have hD : va_D A [(a_o, .inr (5, [.int o_thrown, .long o_trace, .ref a_o_text, .int o_typed, .int o_next_66, .int o_token_67, .int o_place_68, .int o_value_69, .int o_fault_70, .ref a_o_need, .ref a_o_made, .ref a_o_skillTold, .ref a_o_placeTold, .ref a_o_skips, .ref a_o_wheelTold, .int o_trades, .int o_people, .int o_draftTrades, .int o_draftPeople, .int (1 : Int32), .ref a_o_tunes, .ref a_o_s, .ref a_o_spare, .ref a_o_kept, .ref a_o_isKept, .ref a_o_makes, .ref a_o_works, .ref a_o_order, .int o_falling])), (a_o_text, .inl (cI, 400, .inl o_text)), (a_o_need, .inl (cI, 12, .inl o_need)), (a_o_made, .inl (cI, 12, .inl o_made)), (a_o_skillTold, .inl (cI, 72, .inl o_skillTold)), (a_o_placeTold, .inl (cI, 12, .inl o_placeTold)), (a_o_skips, .inl (cI, 12, .inl (upd o_skips ((6 : Int32) + r_4).toNatClampNeg ((o_skips ((6 : Int32) + r_4).toNatClampNeg) ||| ((1 : Int32) <<< (r_10 &&& 31)))))), (a_o_wheelTold, .inl (cI, 12, .inl o_wheelTold))] := hD
                      have q0 := Option.some.inj hf
                      obtain ⟨e0, q1⟩ := Prod.mk.inj q0
                      obtain ⟨e1, q2⟩ := Prod.mk.inj q1
                      obtain ⟨e2, q3⟩ := Prod.mk.inj q2
                      obtain ⟨e3, q4⟩ := Prod.mk.inj q3
                      obtain ⟨e4, q5⟩ := Prod.mk.inj q4
                      obtain ⟨e5, q6⟩ := Prod.mk.inj q5
                      obtain ⟨e6, q7⟩ := Prod.mk.inj q6
                      obtain ⟨e7, q8⟩ := Prod.mk.inj q7
                      obtain ⟨e8, q9⟩ := Prod.mk.inj q8
                      obtain ⟨e9, q10⟩ := Prod.mk.inj q9
                      obtain ⟨e10, q11⟩ := Prod.mk.inj q10
                      obtain ⟨e11, q12⟩ := Prod.mk.inj q11
                      obtain ⟨e12, q13⟩ := Prod.mk.inj q12
                      subst e0
                      subst e1
                      subst e2
                      subst e3
                      subst e4
                      subst e5
                      subst e6
                      subst e7
                      subst e8
                      subst e9
                      subst e10
                      subst e11
                      subst e12
                      subst q13
                      exact gRv hx hb hr hlocks hP hS dX5_readsItem_301
            · have hf := pit hf c_94
              refine lv_aload_n hx hb dX5_readsItem_214 rfl (lv_at hl 3 rfl) ?_
              refine va_get (D := (dC, dI)) (ci := 5) (v := .ref a_o_skillTold) (C := RX5) (T := TX5) (N := 29) hx hb hts uX5_readsItem_X5 hown hK hP 0 rfl rfl 11 (by decide) (hts _ mX5_readsItem_5) (fun _ h9 => h9) rfl dX5_readsItem_215 ?_
              refine lv_bipush (v := (36 : Int32)) hx hb dX5_readsItem_218 (by decide) ?_
              refine lv_bipush (v := (6 : Int32)) hx hb dX5_readsItem_220 (by decide) ?_
              refine lv_iload_n hx hb dX5_readsItem_222 rfl (lv_at hl 2 rfl) ?_
              refine lv_imul hx hb dX5_readsItem_223 ?_
              refine lv_iadd hx hb dX5_readsItem_224 ?_
              refine lv_iload_n hx hb dX5_readsItem_225 rfl (lv_at hl 1 rfl) ?_
              refine lv_iadd hx hb dX5_readsItem_226 ?_
              refine lv_iload hx hb dX5_readsItem_227 (lv_at hl 0 rfl) ?_
              obtain ⟨h_116, hf⟩ := pgd hf
              refine va_iast hx hb hK hP hD hS 4 1 rfl rfl h_116 dX5_readsItem_229 (fun H locs hP hD hS => ?_)
              have hP : va_P (dC, dI) vwCl [(a_o, .inr (5, [.int o_thrown, .long o_trace, .ref a_o_text, .int o_typed, .int o_next_66, .int o_token_67, .int o_place_68, .int o_value_69, .int o_fault_70, .ref a_o_need, .ref a_o_made, .ref a_o_skillTold, .ref a_o_placeTold, .ref a_o_skips, .ref a_o_wheelTold, .int o_trades, .int o_people, .int o_draftTrades, .int o_draftPeople, .int o_isShut, .ref a_o_tunes, .ref a_o_s, .ref a_o_spare, .ref a_o_kept, .ref a_o_isKept, .ref a_o_makes, .ref a_o_works, .ref a_o_order, .int o_falling])), (a_o_text, .inl (cI, 400, .inl o_text)), (a_o_need, .inl (cI, 12, .inl o_need)), (a_o_made, .inl (cI, 12, .inl o_made)), (a_o_skillTold, .inl (cI, 72, .inl (upd o_skillTold (((36 : Int32) + ((6 : Int32) * r_4)) + r_10).toNatClampNeg r_65))), (a_o_placeTold, .inl (cI, 12, .inl o_placeTold)), (a_o_skips, .inl (cI, 12, .inl o_skips)), (a_o_wheelTold, .inl (cI, 12, .inl o_wheelTold))] H := hP
              have hD : va_D A [(a_o, .inr (5, [.int o_thrown, .long o_trace, .ref a_o_text, .int o_typed, .int o_next_66, .int o_token_67, .int o_place_68, .int o_value_69, .int o_fault_70, .ref a_o_need, .ref a_o_made, .ref a_o_skillTold, .ref a_o_placeTold, .ref a_o_skips, .ref a_o_wheelTold, .int o_trades, .int o_people, .int o_draftTrades, .int o_draftPeople, .int o_isShut, .ref a_o_tunes, .ref a_o_s, .ref a_o_spare, .ref a_o_kept, .ref a_o_isKept, .ref a_o_makes, .ref a_o_works, .ref a_o_order, .int o_falling])), (a_o_text, .inl (cI, 400, .inl o_text)), (a_o_need, .inl (cI, 12, .inl o_need)), (a_o_made, .inl (cI, 12, .inl o_made)), (a_o_skillTold, .inl (cI, 72, .inl (upd o_skillTold (((36 : Int32) + ((6 : Int32) * r_4)) + r_10).toNatClampNeg r_65))), (a_o_placeTold, .inl (cI, 12, .inl o_placeTold)), (a_o_skips, .inl (cI, 12, .inl o_skips)), (a_o_wheelTold, .inl (cI, 12, .inl o_wheelTold))] := hD
              refine lv_goto (tgt := 280) hx hb dX5_readsItem_230 (by decide) ?_
              refine lv_aload_n hx hb dX5_readsItem_280 rfl (lv_at hl 3 rfl) ?_
              refine lv_aload_n hx hb dX5_readsItem_281 rfl (lv_at hl 3 rfl) ?_
              refine va_get (D := (dC, dI)) (ci := 5) (v := .int o_isShut) (C := RX5) (T := TX5) (N := 29) hx hb hts uX5_readsItem_X5 hown hK hP 0 rfl rfl 19 (by decide) (hts _ mX5_readsItem_2) (fun _ h9 => h9) rfl dX5_readsItem_282 ?_
              refine lv_if_ne (tgt := 293) hx hb dX5_readsItem_285 (by decide) (fun c_117 => ?_) (fun c_117 => ?_)
              · have hf := pif hf c_117
                refine lv_iconst (v := (1 : Int32)) hx hb dX5_readsItem_293 (by decide) ?_
                refine lv_goto (tgt := 298) hx hb dX5_readsItem_294 (by decide) ?_
                refine va_put (D := (dC, dI)) (ci := 5) (v := .int (1 : Int32)) (ty := .boolean) (C := RX5) (T := TX5) (N := 29) hx hb hts uX5_readsItem_X5 tyX5 tyX5_ok nmX5 hown hK hP hD hS 0 rfl rfl 19 (by decide) (hts _ mX5_readsItem_2) (fun _ h9 => h9) rfl (by decide +kernel) rfl rfl (Nat.le_of_ble_eq_true rfl) dX5_readsItem_298 (fun H locs hP hD hS => ?_)
                have hP : va_P (dC, dI) vwCl [(a_o, .inr (5, [.int o_thrown, .long o_trace, .ref a_o_text, .int o_typed, .int o_next_66, .int o_token_67, .int o_place_68, .int o_value_69, .int o_fault_70, .ref a_o_need, .ref a_o_made, .ref a_o_skillTold, .ref a_o_placeTold, .ref a_o_skips, .ref a_o_wheelTold, .int o_trades, .int o_people, .int o_draftTrades, .int o_draftPeople, .int (1 : Int32), .ref a_o_tunes, .ref a_o_s, .ref a_o_spare, .ref a_o_kept, .ref a_o_isKept, .ref a_o_makes, .ref a_o_works, .ref a_o_order, .int o_falling])), (a_o_text, .inl (cI, 400, .inl o_text)), (a_o_need, .inl (cI, 12, .inl o_need)), (a_o_made, .inl (cI, 12, .inl o_made)), (a_o_skillTold, .inl (cI, 72, .inl (upd o_skillTold (((36 : Int32) + ((6 : Int32) * r_4)) + r_10).toNatClampNeg r_65))), (a_o_placeTold, .inl (cI, 12, .inl o_placeTold)), (a_o_skips, .inl (cI, 12, .inl o_skips)), (a_o_wheelTold, .inl (cI, 12, .inl o_wheelTold))] H := hP
                have hD : va_D A [(a_o, .inr (5, [.int o_thrown, .long o_trace, .ref a_o_text, .int o_typed, .int o_next_66, .int o_token_67, .int o_place_68, .int o_value_69, .int o_fault_70, .ref a_o_need, .ref a_o_made, .ref a_o_skillTold, .ref a_o_placeTold, .ref a_o_skips, .ref a_o_wheelTold, .int o_trades, .int o_people, .int o_draftTrades, .int o_draftPeople, .int (1 : Int32), .ref a_o_tunes, .ref a_o_s, .ref a_o_spare, .ref a_o_kept, .ref a_o_isKept, .ref a_o_makes, .ref a_o_works, .ref a_o_order, .int o_falling])), (a_o_text, .inl (cI, 400, .inl o_text)), (a_o_need, .inl (cI, 12, .inl o_need)), (a_o_made, .inl (cI, 12, .inl o_made)), (a_o_skillTold, .inl (cI, 72, .inl (upd o_skillTold (((36 : Int32) + ((6 : Int32) * r_4)) + r_10).toNatClampNeg r_65))), (a_o_placeTold, .inl (cI, 12, .inl o_placeTold)), (a_o_skips, .inl (cI, 12, .inl o_skips)), (a_o_wheelTold, .inl (cI, 12, .inl o_wheelTold))] := hD
                have q0 := Option.some.inj hf
                obtain ⟨e0, q1⟩ := Prod.mk.inj q0
                obtain ⟨e1, q2⟩ := Prod.mk.inj q1
                obtain ⟨e2, q3⟩ := Prod.mk.inj q2
                obtain ⟨e3, q4⟩ := Prod.mk.inj q3
                obtain ⟨e4, q5⟩ := Prod.mk.inj q4
                obtain ⟨e5, q6⟩ := Prod.mk.inj q5
                obtain ⟨e6, q7⟩ := Prod.mk.inj q6
                obtain ⟨e7, q8⟩ := Prod.mk.inj q7
                obtain ⟨e8, q9⟩ := Prod.mk.inj q8
                obtain ⟨e9, q10⟩ := Prod.mk.inj q9
                obtain ⟨e10, q11⟩ := Prod.mk.inj q10
                obtain ⟨e11, q12⟩ := Prod.mk.inj q11
                obtain ⟨e12, q13⟩ := Prod.mk.inj q12
                subst e0
                subst e1
                subst e2
                subst e3
                subst e4
                subst e5
                subst e6
                subst e7
                subst e8
                subst e9
                subst e10
                subst e11
                subst e12
                subst q13
                exact gRv hx hb hr hlocks hP hS dX5_readsItem_301
              · have hf := pit hf c_117
                refine lv_iload_n hx hb dX5_readsItem_288 rfl (lv_at hl 4 rfl) ?_
                refine lv_iconst (v := (1 : Int32)) hx hb dX5_readsItem_289 (by decide) ?_
                refine lv_icmp_le (tgt := 297) hx hb dX5_readsItem_290 (by decide) (fun c_118 => ?_) (fun c_118 => ?_)
                · have hf := pit hf c_118
                  refine lv_iconst (v := (0 : Int32)) hx hb dX5_readsItem_297 (by decide) ?_
                  refine va_put (D := (dC, dI)) (ci := 5) (v := .int (0 : Int32)) (ty := .boolean) (C := RX5) (T := TX5) (N := 29) hx hb hts uX5_readsItem_X5 tyX5 tyX5_ok nmX5 hown hK hP hD hS 0 rfl rfl 19 (by decide) (hts _ mX5_readsItem_2) (fun _ h9 => h9) rfl (by decide +kernel) rfl rfl (Nat.le_of_ble_eq_true rfl) dX5_readsItem_298 (fun H locs hP hD hS => ?_)
                  have hP : va_P (dC, dI) vwCl [(a_o, .inr (5, [.int o_thrown, .long o_trace, .ref a_o_text, .int o_typed, .int o_next_66, .int o_token_67, .int o_place_68, .int o_value_69, .int o_fault_70, .ref a_o_need, .ref a_o_made, .ref a_o_skillTold, .ref a_o_placeTold, .ref a_o_skips, .ref a_o_wheelTold, .int o_trades, .int o_people, .int o_draftTrades, .int o_draftPeople, .int (0 : Int32), .ref a_o_tunes, .ref a_o_s, .ref a_o_spare, .ref a_o_kept, .ref a_o_isKept, .ref a_o_makes, .ref a_o_works, .ref a_o_order, .int o_falling])), (a_o_text, .inl (cI, 400, .inl o_text)), (a_o_need, .inl (cI, 12, .inl o_need)), (a_o_made, .inl (cI, 12, .inl o_made)), (a_o_skillTold, .inl (cI, 72, .inl (upd o_skillTold (((36 : Int32) + ((6 : Int32) * r_4)) + r_10).toNatClampNeg r_65))), (a_o_placeTold, .inl (cI, 12, .inl o_placeTold)), (a_o_skips, .inl (cI, 12, .inl o_skips)), (a_o_wheelTold, .inl (cI, 12, .inl o_wheelTold))] H := hP
                  have hD : va_D A [(a_o, .inr (5, [.int o_thrown, .long o_trace, .ref a_o_text, .int o_typed, .int o_next_66, .int o_token_67, .int o_place_68, .int o_value_69, .int o_fault_70, .ref a_o_need, .ref a_o_made, .ref a_o_skillTold, .ref a_o_placeTold, .ref a_o_skips, .ref a_o_wheelTold, .int o_trades, .int o_people, .int o_draftTrades, .int o_draftPeople, .int (0 : Int32), .ref a_o_tunes, .ref a_o_s, .ref a_o_spare, .ref a_o_kept, .ref a_o_isKept, .ref a_o_makes, .ref a_o_works, .ref a_o_order, .int o_falling])), (a_o_text, .inl (cI, 400, .inl o_text)), (a_o_need, .inl (cI, 12, .inl o_need)), (a_o_made, .inl (cI, 12, .inl o_made)), (a_o_skillTold, .inl (cI, 72, .inl (upd o_skillTold (((36 : Int32) + ((6 : Int32) * r_4)) + r_10).toNatClampNeg r_65))), (a_o_placeTold, .inl (cI, 12, .inl o_placeTold)), (a_o_skips, .inl (cI, 12, .inl o_skips)), (a_o_wheelTold, .inl (cI, 12, .inl o_wheelTold))] := hD
                  have q0 := Option.some.inj hf
                  obtain ⟨e0, q1⟩ := Prod.mk.inj q0
                  obtain ⟨e1, q2⟩ := Prod.mk.inj q1
                  obtain ⟨e2, q3⟩ := Prod.mk.inj q2
                  obtain ⟨e3, q4⟩ := Prod.mk.inj q3
                  obtain ⟨e4, q5⟩ := Prod.mk.inj q4
                  obtain ⟨e5, q6⟩ := Prod.mk.inj q5
                  obtain ⟨e6, q7⟩ := Prod.mk.inj q6
                  obtain ⟨e7, q8⟩ := Prod.mk.inj q7
                  obtain ⟨e8, q9⟩ := Prod.mk.inj q8
                  obtain ⟨e9, q10⟩ := Prod.mk.inj q9
                  obtain ⟨e10, q11⟩ := Prod.mk.inj q10
                  obtain ⟨e11, q12⟩ := Prod.mk.inj q11
                  obtain ⟨e12, q13⟩ := Prod.mk.inj q12
                  subst e0
                  subst e1
                  subst e2
                  subst e3
                  subst e4
                  subst e5
                  subst e6
                  subst e7
                  subst e8
                  subst e9
                  subst e10
                  subst e11
                  subst e12
                  subst q13
                  exact gRv hx hb hr hlocks hP hS dX5_readsItem_301
                · have hf := pif hf c_118
                  refine lv_iconst (v := (1 : Int32)) hx hb dX5_readsItem_293 (by decide) ?_
                  refine lv_goto (tgt := 298) hx hb dX5_readsItem_294 (by decide) ?_
                  refine va_put (D := (dC, dI)) (ci := 5) (v := .int (1 : Int32)) (ty := .boolean) (C := RX5) (T := TX5) (N := 29) hx hb hts uX5_readsItem_X5 tyX5 tyX5_ok nmX5 hown hK hP hD hS 0 rfl rfl 19 (by decide) (hts _ mX5_readsItem_2) (fun _ h9 => h9) rfl (by decide +kernel) rfl rfl (Nat.le_of_ble_eq_true rfl) dX5_readsItem_298 (fun H locs hP hD hS => ?_)
                  have hP : va_P (dC, dI) vwCl [(a_o, .inr (5, [.int o_thrown, .long o_trace, .ref a_o_text, .int o_typed, .int o_next_66, .int o_token_67, .int o_place_68, .int o_value_69, .int o_fault_70, .ref a_o_need, .ref a_o_made, .ref a_o_skillTold, .ref a_o_placeTold, .ref a_o_skips, .ref a_o_wheelTold, .int o_trades, .int o_people, .int o_draftTrades, .int o_draftPeople, .int (1 : Int32), .ref a_o_tunes, .ref a_o_s, .ref a_o_spare, .ref a_o_kept, .ref a_o_isKept, .ref a_o_makes, .ref a_o_works, .ref a_o_order, .int o_falling])), (a_o_text, .inl (cI, 400, .inl o_text)), (a_o_need, .inl (cI, 12, .inl o_need)), (a_o_made, .inl (cI, 12, .inl o_made)), (a_o_skillTold, .inl (cI, 72, .inl (upd o_skillTold (((36 : Int32) + ((6 : Int32) * r_4)) + r_10).toNatClampNeg r_65))), (a_o_placeTold, .inl (cI, 12, .inl o_placeTold)), (a_o_skips, .inl (cI, 12, .inl o_skips)), (a_o_wheelTold, .inl (cI, 12, .inl o_wheelTold))] H := hP
                  have hD : va_D A [(a_o, .inr (5, [.int o_thrown, .long o_trace, .ref a_o_text, .int o_typed, .int o_next_66, .int o_token_67, .int o_place_68, .int o_value_69, .int o_fault_70, .ref a_o_need, .ref a_o_made, .ref a_o_skillTold, .ref a_o_placeTold, .ref a_o_skips, .ref a_o_wheelTold, .int o_trades, .int o_people, .int o_draftTrades, .int o_draftPeople, .int (1 : Int32), .ref a_o_tunes, .ref a_o_s, .ref a_o_spare, .ref a_o_kept, .ref a_o_isKept, .ref a_o_makes, .ref a_o_works, .ref a_o_order, .int o_falling])), (a_o_text, .inl (cI, 400, .inl o_text)), (a_o_need, .inl (cI, 12, .inl o_need)), (a_o_made, .inl (cI, 12, .inl o_made)), (a_o_skillTold, .inl (cI, 72, .inl (upd o_skillTold (((36 : Int32) + ((6 : Int32) * r_4)) + r_10).toNatClampNeg r_65))), (a_o_placeTold, .inl (cI, 12, .inl o_placeTold)), (a_o_skips, .inl (cI, 12, .inl o_skips)), (a_o_wheelTold, .inl (cI, 12, .inl o_wheelTold))] := hD
                  have q0 := Option.some.inj hf
                  obtain ⟨e0, q1⟩ := Prod.mk.inj q0
                  obtain ⟨e1, q2⟩ := Prod.mk.inj q1
                  obtain ⟨e2, q3⟩ := Prod.mk.inj q2
                  obtain ⟨e3, q4⟩ := Prod.mk.inj q3
                  obtain ⟨e4, q5⟩ := Prod.mk.inj q4
                  obtain ⟨e5, q6⟩ := Prod.mk.inj q5
                  obtain ⟨e6, q7⟩ := Prod.mk.inj q6
                  obtain ⟨e7, q8⟩ := Prod.mk.inj q7
                  obtain ⟨e8, q9⟩ := Prod.mk.inj q8
                  obtain ⟨e9, q10⟩ := Prod.mk.inj q9
                  obtain ⟨e10, q11⟩ := Prod.mk.inj q10
                  obtain ⟨e11, q12⟩ := Prod.mk.inj q11
                  obtain ⟨e12, q13⟩ := Prod.mk.inj q12
                  subst e0
                  subst e1
                  subst e2
                  subst e3
                  subst e4
                  subst e5
                  subst e6
                  subst e7
                  subst e8
                  subst e9
                  subst e10
                  subst e11
                  subst e12
                  subst q13
                  exact gRv hx hb hr hlocks hP hS dX5_readsItem_301
      · have hf := pit hf c_3
        refine lv_aload_n hx hb dX5_readsItem_153 rfl (lv_at hl 0 rfl) ?_
        obtain ⟨o_next_119, o_token_120, o_place_121, o_value_122, o_fault_123, o_wheelTold_124, hc, hf⟩ := pb6 hf
        refine gCv (va_runV (As := []) (rest := []) hF (kX5_readsWheel l dC dI Z cC cI cZ cW a_o a_o_text a_o_need a_o_made a_o_skillTold a_o_placeTold a_o_skips a_o_wheelTold a_o_tunes a_o_s a_o_spare a_o_kept a_o_isKept a_o_makes a_o_works a_o_order _ o_thrown o_trace o_typed o_next o_token o_place o_value o_fault o_trades o_people o_draftTrades o_draftPeople o_isShut o_falling o_text o_wheelTold  N o_next_119 o_token_120 o_place_121 o_value_122 o_fault_123 o_wheelTold_124 hc) (cwV 0 hts gX5_readsItem_X5_readsWheel rfl rfl rfl (by decide +kernel) ⟨Nat.le_of_ble_eq_true rfl, Nat.le_of_ble_eq_true rfl⟩) (gPV (wc := [(a_o, .inr (5, [.int o_thrown, .long o_trace, .ref a_o_text, .int o_typed, .int o_next, .int o_token, .int o_place, .int o_value, .int o_fault, .ref a_o_need, .ref a_o_made, .ref a_o_skillTold, .ref a_o_placeTold, .ref a_o_skips, .ref a_o_wheelTold, .int o_trades, .int o_people, .int o_draftTrades, .int o_draftPeople, .int o_isShut, .ref a_o_tunes, .ref a_o_s, .ref a_o_spare, .ref a_o_kept, .ref a_o_isKept, .ref a_o_makes, .ref a_o_works, .ref a_o_order, .int o_falling])), (a_o_text, .inl (cI, 400, .inl o_text)), (a_o_wheelTold, .inl (cI, 12, .inl o_wheelTold))]) hK hN hA hS hP hD [0, 1, 7] rfl rfl (q0 := 0) (ci := 5) rfl rfl rfl) rfl rfl hl.1 rfl (lv_room (Nat.le_of_ble_eq_true rfl)) dX5_readsItem_154 ⟨Nat.zero_le _, Nat.zero_le _⟩) hP hD hS hA [0, 1, 7] rfl rfl rfl (fun H locs hP hD hS => ?_)
        have hP : va_P (dC, dI) vwCl [(a_o, .inr (5, [.int o_thrown, .long o_trace, .ref a_o_text, .int o_typed, .int o_next_119, .int o_token_120, .int o_place_121, .int o_value_122, .int o_fault_123, .ref a_o_need, .ref a_o_made, .ref a_o_skillTold, .ref a_o_placeTold, .ref a_o_skips, .ref a_o_wheelTold, .int o_trades, .int o_people, .int o_draftTrades, .int o_draftPeople, .int o_isShut, .ref a_o_tunes, .ref a_o_s, .ref a_o_spare, .ref a_o_kept, .ref a_o_isKept, .ref a_o_makes, .ref a_o_works, .ref a_o_order, .int o_falling])), (a_o_text, .inl (cI, 400, .inl o_text)), (a_o_need, .inl (cI, 12, .inl o_need)), (a_o_made, .inl (cI, 12, .inl o_made)), (a_o_skillTold, .inl (cI, 72, .inl o_skillTold)), (a_o_placeTold, .inl (cI, 12, .inl o_placeTold)), (a_o_skips, .inl (cI, 12, .inl o_skips)), (a_o_wheelTold, .inl (cI, 12, .inl o_wheelTold_124))] H := hP
        have hD : va_D A [(a_o, .inr (5, [.int o_thrown, .long o_trace, .ref a_o_text, .int o_typed, .int o_next_119, .int o_token_120, .int o_place_121, .int o_value_122, .int o_fault_123, .ref a_o_need, .ref a_o_made, .ref a_o_skillTold, .ref a_o_placeTold, .ref a_o_skips, .ref a_o_wheelTold, .int o_trades, .int o_people, .int o_draftTrades, .int o_draftPeople, .int o_isShut, .ref a_o_tunes, .ref a_o_s, .ref a_o_spare, .ref a_o_kept, .ref a_o_isKept, .ref a_o_makes, .ref a_o_works, .ref a_o_order, .int o_falling])), (a_o_text, .inl (cI, 400, .inl o_text)), (a_o_need, .inl (cI, 12, .inl o_need)), (a_o_made, .inl (cI, 12, .inl o_made)), (a_o_skillTold, .inl (cI, 72, .inl o_skillTold)), (a_o_placeTold, .inl (cI, 12, .inl o_placeTold)), (a_o_skips, .inl (cI, 12, .inl o_skips)), (a_o_wheelTold, .inl (cI, 12, .inl o_wheelTold_124))] := hD
        refine lv_goto (tgt := 280) hx hb dX5_readsItem_157 (by decide) ?_
        refine lv_aload_n hx hb dX5_readsItem_280 rfl (lv_at hl 0 rfl) ?_
        refine lv_aload_n hx hb dX5_readsItem_281 rfl (lv_at hl 0 rfl) ?_
        refine va_get (D := (dC, dI)) (ci := 5) (v := .int o_isShut) (C := RX5) (T := TX5) (N := 29) hx hb hts uX5_readsItem_X5 hown hK hP 0 rfl rfl 19 (by decide) (hts _ mX5_readsItem_2) (fun _ h9 => h9) rfl dX5_readsItem_282 ?_
        refine lv_if_ne (tgt := 293) hx hb dX5_readsItem_285 (by decide) (fun c_125 => ?_) (fun c_125 => ?_)
        · have hf := pif hf c_125
          refine lv_iconst (v := (1 : Int32)) hx hb dX5_readsItem_293 (by decide) ?_
          refine lv_goto (tgt := 298) hx hb dX5_readsItem_294 (by decide) ?_
          refine va_put (D := (dC, dI)) (ci := 5) (v := .int (1 : Int32)) (ty := .boolean) (C := RX5) (T := TX5) (N := 29) hx hb hts uX5_readsItem_X5 tyX5 tyX5_ok nmX5 hown hK hP hD hS 0 rfl rfl 19 (by decide) (hts _ mX5_readsItem_2) (fun _ h9 => h9) rfl (by decide +kernel) rfl rfl (Nat.le_of_ble_eq_true rfl) dX5_readsItem_298 (fun H locs hP hD hS => ?_)
          have hP : va_P (dC, dI) vwCl [(a_o, .inr (5, [.int o_thrown, .long o_trace, .ref a_o_text, .int o_typed, .int o_next_119, .int o_token_120, .int o_place_121, .int o_value_122, .int o_fault_123, .ref a_o_need, .ref a_o_made, .ref a_o_skillTold, .ref a_o_placeTold, .ref a_o_skips, .ref a_o_wheelTold, .int o_trades, .int o_people, .int o_draftTrades, .int o_draftPeople, .int (1 : Int32), .ref a_o_tunes, .ref a_o_s, .ref a_o_spare, .ref a_o_kept, .ref a_o_isKept, .ref a_o_makes, .ref a_o_works, .ref a_o_order, .int o_falling])), (a_o_text, .inl (cI, 400, .inl o_text)), (a_o_need, .inl (cI, 12, .inl o_need)), (a_o_made, .inl (cI, 12, .inl o_made)), (a_o_skillTold, .inl (cI, 72, .inl o_skillTold)), (a_o_placeTold, .inl (cI, 12, .inl o_placeTold)), (a_o_skips, .inl (cI, 12, .inl o_skips)), (a_o_wheelTold, .inl (cI, 12, .inl o_wheelTold_124))] H := hP
          have hD : va_D A [(a_o, .inr (5, [.int o_thrown, .long o_trace, .ref a_o_text, .int o_typed, .int o_next_119, .int o_token_120, .int o_place_121, .int o_value_122, .int o_fault_123, .ref a_o_need, .ref a_o_made, .ref a_o_skillTold, .ref a_o_placeTold, .ref a_o_skips, .ref a_o_wheelTold, .int o_trades, .int o_people, .int o_draftTrades, .int o_draftPeople, .int (1 : Int32), .ref a_o_tunes, .ref a_o_s, .ref a_o_spare, .ref a_o_kept, .ref a_o_isKept, .ref a_o_makes, .ref a_o_works, .ref a_o_order, .int o_falling])), (a_o_text, .inl (cI, 400, .inl o_text)), (a_o_need, .inl (cI, 12, .inl o_need)), (a_o_made, .inl (cI, 12, .inl o_made)), (a_o_skillTold, .inl (cI, 72, .inl o_skillTold)), (a_o_placeTold, .inl (cI, 12, .inl o_placeTold)), (a_o_skips, .inl (cI, 12, .inl o_skips)), (a_o_wheelTold, .inl (cI, 12, .inl o_wheelTold_124))] := hD
          have q0 := Option.some.inj hf
          obtain ⟨e0, q1⟩ := Prod.mk.inj q0
          obtain ⟨e1, q2⟩ := Prod.mk.inj q1
          obtain ⟨e2, q3⟩ := Prod.mk.inj q2
          obtain ⟨e3, q4⟩ := Prod.mk.inj q3
          obtain ⟨e4, q5⟩ := Prod.mk.inj q4
          obtain ⟨e5, q6⟩ := Prod.mk.inj q5
          obtain ⟨e6, q7⟩ := Prod.mk.inj q6
          obtain ⟨e7, q8⟩ := Prod.mk.inj q7
          obtain ⟨e8, q9⟩ := Prod.mk.inj q8
          obtain ⟨e9, q10⟩ := Prod.mk.inj q9
          obtain ⟨e10, q11⟩ := Prod.mk.inj q10
          obtain ⟨e11, q12⟩ := Prod.mk.inj q11
          obtain ⟨e12, q13⟩ := Prod.mk.inj q12
          subst e0
          subst e1
          subst e2
          subst e3
          subst e4
          subst e5
          subst e6
          subst e7
          subst e8
          subst e9
          subst e10
          subst e11
          subst e12
          subst q13
          exact gRv hx hb hr hlocks hP hS dX5_readsItem_301
        · have hf := pit hf c_125
          refine lv_iload_n hx hb dX5_readsItem_288 rfl (lv_at hl 1 rfl) ?_
          refine lv_iconst (v := (1 : Int32)) hx hb dX5_readsItem_289 (by decide) ?_
          refine lv_icmp_le (tgt := 297) hx hb dX5_readsItem_290 (by decide) (fun c_126 => ?_) (fun c_126 => ?_)
          · have hf := pit hf c_126
            refine lv_iconst (v := (0 : Int32)) hx hb dX5_readsItem_297 (by decide) ?_
            refine va_put (D := (dC, dI)) (ci := 5) (v := .int (0 : Int32)) (ty := .boolean) (C := RX5) (T := TX5) (N := 29) hx hb hts uX5_readsItem_X5 tyX5 tyX5_ok nmX5 hown hK hP hD hS 0 rfl rfl 19 (by decide) (hts _ mX5_readsItem_2) (fun _ h9 => h9) rfl (by decide +kernel) rfl rfl (Nat.le_of_ble_eq_true rfl) dX5_readsItem_298 (fun H locs hP hD hS => ?_)
            have hP : va_P (dC, dI) vwCl [(a_o, .inr (5, [.int o_thrown, .long o_trace, .ref a_o_text, .int o_typed, .int o_next_119, .int o_token_120, .int o_place_121, .int o_value_122, .int o_fault_123, .ref a_o_need, .ref a_o_made, .ref a_o_skillTold, .ref a_o_placeTold, .ref a_o_skips, .ref a_o_wheelTold, .int o_trades, .int o_people, .int o_draftTrades, .int o_draftPeople, .int (0 : Int32), .ref a_o_tunes, .ref a_o_s, .ref a_o_spare, .ref a_o_kept, .ref a_o_isKept, .ref a_o_makes, .ref a_o_works, .ref a_o_order, .int o_falling])), (a_o_text, .inl (cI, 400, .inl o_text)), (a_o_need, .inl (cI, 12, .inl o_need)), (a_o_made, .inl (cI, 12, .inl o_made)), (a_o_skillTold, .inl (cI, 72, .inl o_skillTold)), (a_o_placeTold, .inl (cI, 12, .inl o_placeTold)), (a_o_skips, .inl (cI, 12, .inl o_skips)), (a_o_wheelTold, .inl (cI, 12, .inl o_wheelTold_124))] H := hP
            have hD : va_D A [(a_o, .inr (5, [.int o_thrown, .long o_trace, .ref a_o_text, .int o_typed, .int o_next_119, .int o_token_120, .int o_place_121, .int o_value_122, .int o_fault_123, .ref a_o_need, .ref a_o_made, .ref a_o_skillTold, .ref a_o_placeTold, .ref a_o_skips, .ref a_o_wheelTold, .int o_trades, .int o_people, .int o_draftTrades, .int o_draftPeople, .int (0 : Int32), .ref a_o_tunes, .ref a_o_s, .ref a_o_spare, .ref a_o_kept, .ref a_o_isKept, .ref a_o_makes, .ref a_o_works, .ref a_o_order, .int o_falling])), (a_o_text, .inl (cI, 400, .inl o_text)), (a_o_need, .inl (cI, 12, .inl o_need)), (a_o_made, .inl (cI, 12, .inl o_made)), (a_o_skillTold, .inl (cI, 72, .inl o_skillTold)), (a_o_placeTold, .inl (cI, 12, .inl o_placeTold)), (a_o_skips, .inl (cI, 12, .inl o_skips)), (a_o_wheelTold, .inl (cI, 12, .inl o_wheelTold_124))] := hD
            have q0 := Option.some.inj hf
            obtain ⟨e0, q1⟩ := Prod.mk.inj q0
            obtain ⟨e1, q2⟩ := Prod.mk.inj q1
            obtain ⟨e2, q3⟩ := Prod.mk.inj q2
            obtain ⟨e3, q4⟩ := Prod.mk.inj q3
            obtain ⟨e4, q5⟩ := Prod.mk.inj q4
            obtain ⟨e5, q6⟩ := Prod.mk.inj q5
            obtain ⟨e6, q7⟩ := Prod.mk.inj q6
            obtain ⟨e7, q8⟩ := Prod.mk.inj q7
            obtain ⟨e8, q9⟩ := Prod.mk.inj q8
            obtain ⟨e9, q10⟩ := Prod.mk.inj q9
            obtain ⟨e10, q11⟩ := Prod.mk.inj q10
            obtain ⟨e11, q12⟩ := Prod.mk.inj q11
            obtain ⟨e12, q13⟩ := Prod.mk.inj q12
            subst e0
            subst e1
            subst e2
            subst e3
            subst e4
            subst e5
            subst e6
            subst e7
            subst e8
            subst e9
            subst e10
            subst e11
            subst e12
            subst q13
            exact gRv hx hb hr hlocks hP hS dX5_readsItem_301
          · have hf := pif hf c_126
            refine lv_iconst (v := (1 : Int32)) hx hb dX5_readsItem_293 (by decide) ?_
            refine lv_goto (tgt := 298) hx hb dX5_readsItem_294 (by decide) ?_
            refine va_put (D := (dC, dI)) (ci := 5) (v := .int (1 : Int32)) (ty := .boolean) (C := RX5) (T := TX5) (N := 29) hx hb hts uX5_readsItem_X5 tyX5 tyX5_ok nmX5 hown hK hP hD hS 0 rfl rfl 19 (by decide) (hts _ mX5_readsItem_2) (fun _ h9 => h9) rfl (by decide +kernel) rfl rfl (Nat.le_of_ble_eq_true rfl) dX5_readsItem_298 (fun H locs hP hD hS => ?_)
            have hP : va_P (dC, dI) vwCl [(a_o, .inr (5, [.int o_thrown, .long o_trace, .ref a_o_text, .int o_typed, .int o_next_119, .int o_token_120, .int o_place_121, .int o_value_122, .int o_fault_123, .ref a_o_need, .ref a_o_made, .ref a_o_skillTold, .ref a_o_placeTold, .ref a_o_skips, .ref a_o_wheelTold, .int o_trades, .int o_people, .int o_draftTrades, .int o_draftPeople, .int (1 : Int32), .ref a_o_tunes, .ref a_o_s, .ref a_o_spare, .ref a_o_kept, .ref a_o_isKept, .ref a_o_makes, .ref a_o_works, .ref a_o_order, .int o_falling])), (a_o_text, .inl (cI, 400, .inl o_text)), (a_o_need, .inl (cI, 12, .inl o_need)), (a_o_made, .inl (cI, 12, .inl o_made)), (a_o_skillTold, .inl (cI, 72, .inl o_skillTold)), (a_o_placeTold, .inl (cI, 12, .inl o_placeTold)), (a_o_skips, .inl (cI, 12, .inl o_skips)), (a_o_wheelTold, .inl (cI, 12, .inl o_wheelTold_124))] H := hP
            have hD : va_D A [(a_o, .inr (5, [.int o_thrown, .long o_trace, .ref a_o_text, .int o_typed, .int o_next_119, .int o_token_120, .int o_place_121, .int o_value_122, .int o_fault_123, .ref a_o_need, .ref a_o_made, .ref a_o_skillTold, .ref a_o_placeTold, .ref a_o_skips, .ref a_o_wheelTold, .int o_trades, .int o_people, .int o_draftTrades, .int o_draftPeople, .int (1 : Int32), .ref a_o_tunes, .ref a_o_s, .ref a_o_spare, .ref a_o_kept, .ref a_o_isKept, .ref a_o_makes, .ref a_o_works, .ref a_o_order, .int o_falling])), (a_o_text, .inl (cI, 400, .inl o_text)), (a_o_need, .inl (cI, 12, .inl o_need)), (a_o_made, .inl (cI, 12, .inl o_made)), (a_o_skillTold, .inl (cI, 72, .inl o_skillTold)), (a_o_placeTold, .inl (cI, 12, .inl o_placeTold)), (a_o_skips, .inl (cI, 12, .inl o_skips)), (a_o_wheelTold, .inl (cI, 12, .inl o_wheelTold_124))] := hD
            have q0 := Option.some.inj hf
            obtain ⟨e0, q1⟩ := Prod.mk.inj q0
            obtain ⟨e1, q2⟩ := Prod.mk.inj q1
            obtain ⟨e2, q3⟩ := Prod.mk.inj q2
            obtain ⟨e3, q4⟩ := Prod.mk.inj q3
            obtain ⟨e4, q5⟩ := Prod.mk.inj q4
            obtain ⟨e5, q6⟩ := Prod.mk.inj q5
            obtain ⟨e6, q7⟩ := Prod.mk.inj q6
            obtain ⟨e7, q8⟩ := Prod.mk.inj q7
            obtain ⟨e8, q9⟩ := Prod.mk.inj q8
            obtain ⟨e9, q10⟩ := Prod.mk.inj q9
            obtain ⟨e10, q11⟩ := Prod.mk.inj q10
            obtain ⟨e11, q12⟩ := Prod.mk.inj q11
            obtain ⟨e12, q13⟩ := Prod.mk.inj q12
            subst e0
            subst e1
            subst e2
            subst e3
            subst e4
            subst e5
            subst e6
            subst e7
            subst e8
            subst e9
            subst e10
            subst e11
            subst e12
            subst q13
            exact gRv hx hb hr hlocks hP hS dX5_readsItem_301
    · have hf := pit hf c_2
      refine lv_iconst (v := (0 : Int32)) hx hb dX5_readsItem_76 (by decide) ?_
      refine lv_istore_n (lv' := [(2, .int (0 : Int32)), (0, .ref a_o), (1, .int i1)]) hx hb dX5_readsItem_77 rfl hl (by decide) rfl (fun ls hl => ?_)
      obtain ⟨o_skillTold_127, l2_128, hc, hf⟩ := pb2 hf
      refine wX5_readsItem_78 hg0 a_o a_o_text a_o_need a_o_made a_o_skillTold a_o_placeTold a_o_skips a_o_wheelTold a_o_tunes a_o_s a_o_spare a_o_kept a_o_isKept a_o_makes a_o_works a_o_order o_thrown o_trace o_typed o_next o_token o_place o_value o_fault o_trades o_people o_draftTrades o_draftPeople o_isShut o_falling o_text o_need o_made o_placeTold o_skips o_wheelTold i1 N N o_skillTold (0 : Int32) o_skillTold_127 l2_128 hc _ _ _ hP hD hS (lv_sub hl [1, 2, 0] rfl) (fun H locs ls hP hD hS hl => ?_)
      refine lv_aload_n hx hb dX5_readsItem_108 rfl (lv_at hl 0 rfl) ?_
      refine va_get (D := (dC, dI)) (ci := 5) (v := .ref a_o_placeTold) (C := RX5) (T := TX5) (N := 29) hx hb hts uX5_readsItem_X5 hown hK hP 0 rfl rfl 12 (by decide) (hts _ mX5_readsItem_3) (fun _ h9 => h9) rfl dX5_readsItem_109 ?_
      refine lv_bipush (v := (6 : Int32)) hx hb dX5_readsItem_112 (by decide) ?_
      refine lv_aload_n hx hb dX5_readsItem_114 rfl (lv_at hl 0 rfl) ?_
      refine va_get (D := (dC, dI)) (ci := 5) (v := .int o_draftPeople) (C := RX5) (T := TX5) (N := 29) hx hb hts uX5_readsItem_X5 hown hK hP 0 rfl rfl 18 (by decide) (hts _ mX5_readsItem_0) (fun _ h9 => h9) rfl dX5_readsItem_115 ?_
      refine lv_iadd hx hb dX5_readsItem_118 ?_
      refine lv_bipush (v := (-9 : Int32)) hx hb dX5_readsItem_119 (by decide) ?_
      obtain ⟨h_129, hf⟩ := pgd hf
      refine va_iast hx hb hK hP hD hS 5 1 rfl rfl h_129 dX5_readsItem_121 (fun H locs hP hD hS => ?_)
      have hP : va_P (dC, dI) vwCl [(a_o, .inr (5, [.int o_thrown, .long o_trace, .ref a_o_text, .int o_typed, .int o_next, .int o_token, .int o_place, .int o_value, .int o_fault, .ref a_o_need, .ref a_o_made, .ref a_o_skillTold, .ref a_o_placeTold, .ref a_o_skips, .ref a_o_wheelTold, .int o_trades, .int o_people, .int o_draftTrades, .int o_draftPeople, .int o_isShut, .ref a_o_tunes, .ref a_o_s, .ref a_o_spare, .ref a_o_kept, .ref a_o_isKept, .ref a_o_makes, .ref a_o_works, .ref a_o_order, .int o_falling])), (a_o_text, .inl (cI, 400, .inl o_text)), (a_o_need, .inl (cI, 12, .inl o_need)), (a_o_made, .inl (cI, 12, .inl o_made)), (a_o_skillTold, .inl (cI, 72, .inl o_skillTold_127)), (a_o_placeTold, .inl (cI, 12, .inl (upd o_placeTold ((6 : Int32) + o_draftPeople).toNatClampNeg (-9 : Int32)))), (a_o_skips, .inl (cI, 12, .inl o_skips)), (a_o_wheelTold, .inl (cI, 12, .inl o_wheelTold))] H := hP
      have hD : va_D A [(a_o, .inr (5, [.int o_thrown, .long o_trace, .ref a_o_text, .int o_typed, .int o_next, .int o_token, .int o_place, .int o_value, .int o_fault, .ref a_o_need, .ref a_o_made, .ref a_o_skillTold, .ref a_o_placeTold, .ref a_o_skips, .ref a_o_wheelTold, .int o_trades, .int o_people, .int o_draftTrades, .int o_draftPeople, .int o_isShut, .ref a_o_tunes, .ref a_o_s, .ref a_o_spare, .ref a_o_kept, .ref a_o_isKept, .ref a_o_makes, .ref a_o_works, .ref a_o_order, .int o_falling])), (a_o_text, .inl (cI, 400, .inl o_text)), (a_o_need, .inl (cI, 12, .inl o_need)), (a_o_made, .inl (cI, 12, .inl o_made)), (a_o_skillTold, .inl (cI, 72, .inl o_skillTold_127)), (a_o_placeTold, .inl (cI, 12, .inl (upd o_placeTold ((6 : Int32) + o_draftPeople).toNatClampNeg (-9 : Int32)))), (a_o_skips, .inl (cI, 12, .inl o_skips)), (a_o_wheelTold, .inl (cI, 12, .inl o_wheelTold))] := hD
      refine lv_aload_n hx hb dX5_readsItem_122 rfl (lv_at hl 0 rfl) ?_
      refine va_get (D := (dC, dI)) (ci := 5) (v := .ref a_o_skips) (C := RX5) (T := TX5) (N := 29) hx hb hts uX5_readsItem_X5 hown hK hP 0 rfl rfl 13 (by decide) (hts _ mX5_readsItem_4) (fun _ h9 => h9) rfl dX5_readsItem_123 ?_
      refine lv_bipush (v := (6 : Int32)) hx hb dX5_readsItem_126 (by decide) ?_
      refine lv_aload_n hx hb dX5_readsItem_128 rfl (lv_at hl 0 rfl) ?_
      refine va_get (D := (dC, dI)) (ci := 5) (v := .int o_draftPeople) (C := RX5) (T := TX5) (N := 29) hx hb hts uX5_readsItem_X5 hown hK hP 0 rfl rfl 18 (by decide) (hts _ mX5_readsItem_0) (fun _ h9 => h9) rfl dX5_readsItem_129 ?_
      refine lv_iadd hx hb dX5_readsItem_132 ?_
      refine lv_iconst (v := (0 : Int32)) hx hb dX5_readsItem_133 (by decide) ?_
      obtain ⟨h_130, hf⟩ := pgd hf
      refine va_iast hx hb hK hP hD hS 6 1 rfl rfl h_130 dX5_readsItem_134 (fun H locs hP hD hS => ?_)
      have hP : va_P (dC, dI) vwCl [(a_o, .inr (5, [.int o_thrown, .long o_trace, .ref a_o_text, .int o_typed, .int o_next, .int o_token, .int o_place, .int o_value, .int o_fault, .ref a_o_need, .ref a_o_made, .ref a_o_skillTold, .ref a_o_placeTold, .ref a_o_skips, .ref a_o_wheelTold, .int o_trades, .int o_people, .int o_draftTrades, .int o_draftPeople, .int o_isShut, .ref a_o_tunes, .ref a_o_s, .ref a_o_spare, .ref a_o_kept, .ref a_o_isKept, .ref a_o_makes, .ref a_o_works, .ref a_o_order, .int o_falling])), (a_o_text, .inl (cI, 400, .inl o_text)), (a_o_need, .inl (cI, 12, .inl o_need)), (a_o_made, .inl (cI, 12, .inl o_made)), (a_o_skillTold, .inl (cI, 72, .inl o_skillTold_127)), (a_o_placeTold, .inl (cI, 12, .inl (upd o_placeTold ((6 : Int32) + o_draftPeople).toNatClampNeg (-9 : Int32)))), (a_o_skips, .inl (cI, 12, .inl (upd o_skips ((6 : Int32) + o_draftPeople).toNatClampNeg (0 : Int32)))), (a_o_wheelTold, .inl (cI, 12, .inl o_wheelTold))] H := hP
      have hD : va_D A [(a_o, .inr (5, [.int o_thrown, .long o_trace, .ref a_o_text, .int o_typed, .int o_next, .int o_token, .int o_place, .int o_value, .int o_fault, .ref a_o_need, .ref a_o_made, .ref a_o_skillTold, .ref a_o_placeTold, .ref a_o_skips, .ref a_o_wheelTold, .int o_trades, .int o_people, .int o_draftTrades, .int o_draftPeople, .int o_isShut, .ref a_o_tunes, .ref a_o_s, .ref a_o_spare, .ref a_o_kept, .ref a_o_isKept, .ref a_o_makes, .ref a_o_works, .ref a_o_order, .int o_falling])), (a_o_text, .inl (cI, 400, .inl o_text)), (a_o_need, .inl (cI, 12, .inl o_need)), (a_o_made, .inl (cI, 12, .inl o_made)), (a_o_skillTold, .inl (cI, 72, .inl o_skillTold_127)), (a_o_placeTold, .inl (cI, 12, .inl (upd o_placeTold ((6 : Int32) + o_draftPeople).toNatClampNeg (-9 : Int32)))), (a_o_skips, .inl (cI, 12, .inl (upd o_skips ((6 : Int32) + o_draftPeople).toNatClampNeg (0 : Int32)))), (a_o_wheelTold, .inl (cI, 12, .inl o_wheelTold))] := hD
      refine lv_aload_n hx hb dX5_readsItem_135 rfl (lv_at hl 0 rfl) ?_
      refine lv_dup hx hb dX5_readsItem_136 rfl ?_
      refine va_get (D := (dC, dI)) (ci := 5) (v := .int o_draftPeople) (C := RX5) (T := TX5) (N := 29) hx hb hts uX5_readsItem_X5 hown hK hP 0 rfl rfl 18 (by decide) (hts _ mX5_readsItem_0) (fun _ h9 => h9) rfl dX5_readsItem_137 ?_
      refine lv_iconst (v := (1 : Int32)) hx hb dX5_readsItem_140 (by decide) ?_
      refine lv_iadd hx hb dX5_readsItem_141 ?_
      refine va_put (D := (dC, dI)) (ci := 5) (v := .int (o_draftPeople + (1 : Int32))) (ty := .int) (C := RX5) (T := TX5) (N := 29) hx hb hts uX5_readsItem_X5 tyX5 tyX5_ok nmX5 hown hK hP hD hS 0 rfl rfl 18 (by decide) (hts _ mX5_readsItem_0) (fun _ h9 => h9) rfl (by decide +kernel) rfl rfl (Nat.le_of_ble_eq_true rfl) dX5_readsItem_142 (fun H locs hP hD hS => ?_)
      have hP : va_P (dC, dI) vwCl [(a_o, .inr (5, [.int o_thrown, .long o_trace, .ref a_o_text, .int o_typed, .int o_next, .int o_token, .int o_place, .int o_value, .int o_fault, .ref a_o_need, .ref a_o_made, .ref a_o_skillTold, .ref a_o_placeTold, .ref a_o_skips, .ref a_o_wheelTold, .int o_trades, .int o_people, .int o_draftTrades, .int (o_draftPeople + (1 : Int32)), .int o_isShut, .ref a_o_tunes, .ref a_o_s, .ref a_o_spare, .ref a_o_kept, .ref a_o_isKept, .ref a_o_makes, .ref a_o_works, .ref a_o_order, .int o_falling])), (a_o_text, .inl (cI, 400, .inl o_text)), (a_o_need, .inl (cI, 12, .inl o_need)), (a_o_made, .inl (cI, 12, .inl o_made)), (a_o_skillTold, .inl (cI, 72, .inl o_skillTold_127)), (a_o_placeTold, .inl (cI, 12, .inl (upd o_placeTold ((6 : Int32) + o_draftPeople).toNatClampNeg (-9 : Int32)))), (a_o_skips, .inl (cI, 12, .inl (upd o_skips ((6 : Int32) + o_draftPeople).toNatClampNeg (0 : Int32)))), (a_o_wheelTold, .inl (cI, 12, .inl o_wheelTold))] H := hP
      have hD : va_D A [(a_o, .inr (5, [.int o_thrown, .long o_trace, .ref a_o_text, .int o_typed, .int o_next, .int o_token, .int o_place, .int o_value, .int o_fault, .ref a_o_need, .ref a_o_made, .ref a_o_skillTold, .ref a_o_placeTold, .ref a_o_skips, .ref a_o_wheelTold, .int o_trades, .int o_people, .int o_draftTrades, .int (o_draftPeople + (1 : Int32)), .int o_isShut, .ref a_o_tunes, .ref a_o_s, .ref a_o_spare, .ref a_o_kept, .ref a_o_isKept, .ref a_o_makes, .ref a_o_works, .ref a_o_order, .int o_falling])), (a_o_text, .inl (cI, 400, .inl o_text)), (a_o_need, .inl (cI, 12, .inl o_need)), (a_o_made, .inl (cI, 12, .inl o_made)), (a_o_skillTold, .inl (cI, 72, .inl o_skillTold_127)), (a_o_placeTold, .inl (cI, 12, .inl (upd o_placeTold ((6 : Int32) + o_draftPeople).toNatClampNeg (-9 : Int32)))), (a_o_skips, .inl (cI, 12, .inl (upd o_skips ((6 : Int32) + o_draftPeople).toNatClampNeg (0 : Int32)))), (a_o_wheelTold, .inl (cI, 12, .inl o_wheelTold))] := hD
      refine lv_goto (tgt := 280) hx hb dX5_readsItem_145 (by decide) ?_
      refine lv_aload_n hx hb dX5_readsItem_280 rfl (lv_at hl 0 rfl) ?_
      refine lv_aload_n hx hb dX5_readsItem_281 rfl (lv_at hl 0 rfl) ?_
      refine va_get (D := (dC, dI)) (ci := 5) (v := .int o_isShut) (C := RX5) (T := TX5) (N := 29) hx hb hts uX5_readsItem_X5 hown hK hP 0 rfl rfl 19 (by decide) (hts _ mX5_readsItem_2) (fun _ h9 => h9) rfl dX5_readsItem_282 ?_
      refine lv_if_ne (tgt := 293) hx hb dX5_readsItem_285 (by decide) (fun c_131 => ?_) (fun c_131 => ?_)
      · have hf := pif hf c_131
        refine lv_iconst (v := (1 : Int32)) hx hb dX5_readsItem_293 (by decide) ?_
        refine lv_goto (tgt := 298) hx hb dX5_readsItem_294 (by decide) ?_
        refine va_put (D := (dC, dI)) (ci := 5) (v := .int (1 : Int32)) (ty := .boolean) (C := RX5) (T := TX5) (N := 29) hx hb hts uX5_readsItem_X5 tyX5 tyX5_ok nmX5 hown hK hP hD hS 0 rfl rfl 19 (by decide) (hts _ mX5_readsItem_2) (fun _ h9 => h9) rfl (by decide +kernel) rfl rfl (Nat.le_of_ble_eq_true rfl) dX5_readsItem_298 (fun H locs hP hD hS => ?_)
        have hP : va_P (dC, dI) vwCl [(a_o, .inr (5, [.int o_thrown, .long o_trace, .ref a_o_text, .int o_typed, .int o_next, .int o_token, .int o_place, .int o_value, .int o_fault, .ref a_o_need, .ref a_o_made, .ref a_o_skillTold, .ref a_o_placeTold, .ref a_o_skips, .ref a_o_wheelTold, .int o_trades, .int o_people, .int o_draftTrades, .int (o_draftPeople + (1 : Int32)), .int (1 : Int32), .ref a_o_tunes, .ref a_o_s, .ref a_o_spare, .ref a_o_kept, .ref a_o_isKept, .ref a_o_makes, .ref a_o_works, .ref a_o_order, .int o_falling])), (a_o_text, .inl (cI, 400, .inl o_text)), (a_o_need, .inl (cI, 12, .inl o_need)), (a_o_made, .inl (cI, 12, .inl o_made)), (a_o_skillTold, .inl (cI, 72, .inl o_skillTold_127)), (a_o_placeTold, .inl (cI, 12, .inl (upd o_placeTold ((6 : Int32) + o_draftPeople).toNatClampNeg (-9 : Int32)))), (a_o_skips, .inl (cI, 12, .inl (upd o_skips ((6 : Int32) + o_draftPeople).toNatClampNeg (0 : Int32)))), (a_o_wheelTold, .inl (cI, 12, .inl o_wheelTold))] H := hP
        have hD : va_D A [(a_o, .inr (5, [.int o_thrown, .long o_trace, .ref a_o_text, .int o_typed, .int o_next, .int o_token, .int o_place, .int o_value, .int o_fault, .ref a_o_need, .ref a_o_made, .ref a_o_skillTold, .ref a_o_placeTold, .ref a_o_skips, .ref a_o_wheelTold, .int o_trades, .int o_people, .int o_draftTrades, .int (o_draftPeople + (1 : Int32)), .int (1 : Int32), .ref a_o_tunes, .ref a_o_s, .ref a_o_spare, .ref a_o_kept, .ref a_o_isKept, .ref a_o_makes, .ref a_o_works, .ref a_o_order, .int o_falling])), (a_o_text, .inl (cI, 400, .inl o_text)), (a_o_need, .inl (cI, 12, .inl o_need)), (a_o_made, .inl (cI, 12, .inl o_made)), (a_o_skillTold, .inl (cI, 72, .inl o_skillTold_127)), (a_o_placeTold, .inl (cI, 12, .inl (upd o_placeTold ((6 : Int32) + o_draftPeople).toNatClampNeg (-9 : Int32)))), (a_o_skips, .inl (cI, 12, .inl (upd o_skips ((6 : Int32) + o_draftPeople).toNatClampNeg (0 : Int32)))), (a_o_wheelTold, .inl (cI, 12, .inl o_wheelTold))] := hD
        have q0 := Option.some.inj hf
        obtain ⟨e0, q1⟩ := Prod.mk.inj q0
        obtain ⟨e1, q2⟩ := Prod.mk.inj q1
        obtain ⟨e2, q3⟩ := Prod.mk.inj q2
        obtain ⟨e3, q4⟩ := Prod.mk.inj q3
        obtain ⟨e4, q5⟩ := Prod.mk.inj q4
        obtain ⟨e5, q6⟩ := Prod.mk.inj q5
        obtain ⟨e6, q7⟩ := Prod.mk.inj q6
        obtain ⟨e7, q8⟩ := Prod.mk.inj q7
        obtain ⟨e8, q9⟩ := Prod.mk.inj q8
        obtain ⟨e9, q10⟩ := Prod.mk.inj q9
        obtain ⟨e10, q11⟩ := Prod.mk.inj q10
        obtain ⟨e11, q12⟩ := Prod.mk.inj q11
        obtain ⟨e12, q13⟩ := Prod.mk.inj q12
        subst e0
        subst e1
        subst e2
        subst e3
        subst e4
        subst e5
        subst e6
        subst e7
        subst e8
        subst e9
        subst e10
        subst e11
        subst e12
        subst q13
        exact gRv hx hb hr hlocks hP hS dX5_readsItem_301
      · have hf := pit hf c_131
        refine lv_iload_n hx hb dX5_readsItem_288 rfl (lv_at hl 1 rfl) ?_
        refine lv_iconst (v := (1 : Int32)) hx hb dX5_readsItem_289 (by decide) ?_
        refine lv_icmp_le (tgt := 297) hx hb dX5_readsItem_290 (by decide) (fun c_132 => ?_) (fun c_132 => ?_)
        · have hf := pit hf c_132
          refine lv_iconst (v := (0 : Int32)) hx hb dX5_readsItem_297 (by decide) ?_
          refine va_put (D := (dC, dI)) (ci := 5) (v := .int (0 : Int32)) (ty := .boolean) (C := RX5) (T := TX5) (N := 29) hx hb hts uX5_readsItem_X5 tyX5 tyX5_ok nmX5 hown hK hP hD hS 0 rfl rfl 19 (by decide) (hts _ mX5_readsItem_2) (fun _ h9 => h9) rfl (by decide +kernel) rfl rfl (Nat.le_of_ble_eq_true rfl) dX5_readsItem_298 (fun H locs hP hD hS => ?_)
          have hP : va_P (dC, dI) vwCl [(a_o, .inr (5, [.int o_thrown, .long o_trace, .ref a_o_text, .int o_typed, .int o_next, .int o_token, .int o_place, .int o_value, .int o_fault, .ref a_o_need, .ref a_o_made, .ref a_o_skillTold, .ref a_o_placeTold, .ref a_o_skips, .ref a_o_wheelTold, .int o_trades, .int o_people, .int o_draftTrades, .int (o_draftPeople + (1 : Int32)), .int (0 : Int32), .ref a_o_tunes, .ref a_o_s, .ref a_o_spare, .ref a_o_kept, .ref a_o_isKept, .ref a_o_makes, .ref a_o_works, .ref a_o_order, .int o_falling])), (a_o_text, .inl (cI, 400, .inl o_text)), (a_o_need, .inl (cI, 12, .inl o_need)), (a_o_made, .inl (cI, 12, .inl o_made)), (a_o_skillTold, .inl (cI, 72, .inl o_skillTold_127)), (a_o_placeTold, .inl (cI, 12, .inl (upd o_placeTold ((6 : Int32) + o_draftPeople).toNatClampNeg (-9 : Int32)))), (a_o_skips, .inl (cI, 12, .inl (upd o_skips ((6 : Int32) + o_draftPeople).toNatClampNeg (0 : Int32)))), (a_o_wheelTold, .inl (cI, 12, .inl o_wheelTold))] H := hP
          have hD : va_D A [(a_o, .inr (5, [.int o_thrown, .long o_trace, .ref a_o_text, .int o_typed, .int o_next, .int o_token, .int o_place, .int o_value, .int o_fault, .ref a_o_need, .ref a_o_made, .ref a_o_skillTold, .ref a_o_placeTold, .ref a_o_skips, .ref a_o_wheelTold, .int o_trades, .int o_people, .int o_draftTrades, .int (o_draftPeople + (1 : Int32)), .int (0 : Int32), .ref a_o_tunes, .ref a_o_s, .ref a_o_spare, .ref a_o_kept, .ref a_o_isKept, .ref a_o_makes, .ref a_o_works, .ref a_o_order, .int o_falling])), (a_o_text, .inl (cI, 400, .inl o_text)), (a_o_need, .inl (cI, 12, .inl o_need)), (a_o_made, .inl (cI, 12, .inl o_made)), (a_o_skillTold, .inl (cI, 72, .inl o_skillTold_127)), (a_o_placeTold, .inl (cI, 12, .inl (upd o_placeTold ((6 : Int32) + o_draftPeople).toNatClampNeg (-9 : Int32)))), (a_o_skips, .inl (cI, 12, .inl (upd o_skips ((6 : Int32) + o_draftPeople).toNatClampNeg (0 : Int32)))), (a_o_wheelTold, .inl (cI, 12, .inl o_wheelTold))] := hD
          have q0 := Option.some.inj hf
          obtain ⟨e0, q1⟩ := Prod.mk.inj q0
          obtain ⟨e1, q2⟩ := Prod.mk.inj q1
          obtain ⟨e2, q3⟩ := Prod.mk.inj q2
          obtain ⟨e3, q4⟩ := Prod.mk.inj q3
          obtain ⟨e4, q5⟩ := Prod.mk.inj q4
          obtain ⟨e5, q6⟩ := Prod.mk.inj q5
          obtain ⟨e6, q7⟩ := Prod.mk.inj q6
          obtain ⟨e7, q8⟩ := Prod.mk.inj q7
          obtain ⟨e8, q9⟩ := Prod.mk.inj q8
          obtain ⟨e9, q10⟩ := Prod.mk.inj q9
          obtain ⟨e10, q11⟩ := Prod.mk.inj q10
          obtain ⟨e11, q12⟩ := Prod.mk.inj q11
          obtain ⟨e12, q13⟩ := Prod.mk.inj q12
          subst e0
          subst e1
          subst e2
          subst e3
          subst e4
          subst e5
          subst e6
          subst e7
          subst e8
          subst e9
          subst e10
          subst e11
          subst e12
          subst q13
          exact gRv hx hb hr hlocks hP hS dX5_readsItem_301
        · have hf := pif hf c_132
          refine lv_iconst (v := (1 : Int32)) hx hb dX5_readsItem_293 (by decide) ?_
          refine lv_goto (tgt := 298) hx hb dX5_readsItem_294 (by decide) ?_
          refine va_put (D := (dC, dI)) (ci := 5) (v := .int (1 : Int32)) (ty := .boolean) (C := RX5) (T := TX5) (N := 29) hx hb hts uX5_readsItem_X5 tyX5 tyX5_ok nmX5 hown hK hP hD hS 0 rfl rfl 19 (by decide) (hts _ mX5_readsItem_2) (fun _ h9 => h9) rfl (by decide +kernel) rfl rfl (Nat.le_of_ble_eq_true rfl) dX5_readsItem_298 (fun H locs hP hD hS => ?_)
          have hP : va_P (dC, dI) vwCl [(a_o, .inr (5, [.int o_thrown, .long o_trace, .ref a_o_text, .int o_typed, .int o_next, .int o_token, .int o_place, .int o_value, .int o_fault, .ref a_o_need, .ref a_o_made, .ref a_o_skillTold, .ref a_o_placeTold, .ref a_o_skips, .ref a_o_wheelTold, .int o_trades, .int o_people, .int o_draftTrades, .int (o_draftPeople + (1 : Int32)), .int (1 : Int32), .ref a_o_tunes, .ref a_o_s, .ref a_o_spare, .ref a_o_kept, .ref a_o_isKept, .ref a_o_makes, .ref a_o_works, .ref a_o_order, .int o_falling])), (a_o_text, .inl (cI, 400, .inl o_text)), (a_o_need, .inl (cI, 12, .inl o_need)), (a_o_made, .inl (cI, 12, .inl o_made)), (a_o_skillTold, .inl (cI, 72, .inl o_skillTold_127)), (a_o_placeTold, .inl (cI, 12, .inl (upd o_placeTold ((6 : Int32) + o_draftPeople).toNatClampNeg (-9 : Int32)))), (a_o_skips, .inl (cI, 12, .inl (upd o_skips ((6 : Int32) + o_draftPeople).toNatClampNeg (0 : Int32)))), (a_o_wheelTold, .inl (cI, 12, .inl o_wheelTold))] H := hP
          have hD : va_D A [(a_o, .inr (5, [.int o_thrown, .long o_trace, .ref a_o_text, .int o_typed, .int o_next, .int o_token, .int o_place, .int o_value, .int o_fault, .ref a_o_need, .ref a_o_made, .ref a_o_skillTold, .ref a_o_placeTold, .ref a_o_skips, .ref a_o_wheelTold, .int o_trades, .int o_people, .int o_draftTrades, .int (o_draftPeople + (1 : Int32)), .int (1 : Int32), .ref a_o_tunes, .ref a_o_s, .ref a_o_spare, .ref a_o_kept, .ref a_o_isKept, .ref a_o_makes, .ref a_o_works, .ref a_o_order, .int o_falling])), (a_o_text, .inl (cI, 400, .inl o_text)), (a_o_need, .inl (cI, 12, .inl o_need)), (a_o_made, .inl (cI, 12, .inl o_made)), (a_o_skillTold, .inl (cI, 72, .inl o_skillTold_127)), (a_o_placeTold, .inl (cI, 12, .inl (upd o_placeTold ((6 : Int32) + o_draftPeople).toNatClampNeg (-9 : Int32)))), (a_o_skips, .inl (cI, 12, .inl (upd o_skips ((6 : Int32) + o_draftPeople).toNatClampNeg (0 : Int32)))), (a_o_wheelTold, .inl (cI, 12, .inl o_wheelTold))] := hD
          have q0 := Option.some.inj hf
          obtain ⟨e0, q1⟩ := Prod.mk.inj q0
          obtain ⟨e1, q2⟩ := Prod.mk.inj q1
          obtain ⟨e2, q3⟩ := Prod.mk.inj q2
          obtain ⟨e3, q4⟩ := Prod.mk.inj q3
          obtain ⟨e4, q5⟩ := Prod.mk.inj q4
          obtain ⟨e5, q6⟩ := Prod.mk.inj q5
          obtain ⟨e6, q7⟩ := Prod.mk.inj q6
          obtain ⟨e7, q8⟩ := Prod.mk.inj q7
          obtain ⟨e8, q9⟩ := Prod.mk.inj q8
          obtain ⟨e9, q10⟩ := Prod.mk.inj q9
          obtain ⟨e10, q11⟩ := Prod.mk.inj q10
          obtain ⟨e11, q12⟩ := Prod.mk.inj q11
          obtain ⟨e12, q13⟩ := Prod.mk.inj q12
          subst e0
          subst e1
          subst e2
          subst e3
          subst e4
          subst e5
          subst e6
          subst e7
          subst e8
          subst e9
          subst e10
          subst e11
          subst e12
          subst q13
          exact gRv hx hb hr hlocks hP hS dX5_readsItem_301
  · have hf := pit hf c_1
    refine lv_aload_n hx hb dX5_readsItem_4 rfl (lv_at hl 0 rfl) ?_
    refine va_get (D := (dC, dI)) (ci := 5) (v := .ref a_o_need) (C := RX5) (T := TX5) (N := 29) hx hb hts uX5_readsItem_X5 hown hK hP 0 rfl rfl 9 (by decide) (hts _ mX5_readsItem_6) (fun _ h9 => h9) rfl dX5_readsItem_5 ?_
    refine lv_bipush (v := (6 : Int32)) hx hb dX5_readsItem_8 (by decide) ?_
    refine lv_aload_n hx hb dX5_readsItem_10 rfl (lv_at hl 0 rfl) ?_
    refine va_get (D := (dC, dI)) (ci := 5) (v := .int o_draftTrades) (C := RX5) (T := TX5) (N := 29) hx hb hts uX5_readsItem_X5 hown hK hP 0 rfl rfl 17 (by decide) (hts _ mX5_readsItem_1) (fun _ h9 => h9) rfl dX5_readsItem_11 ?_
    refine lv_iadd hx hb dX5_readsItem_14 ?_
    refine lv_aload_n hx hb dX5_readsItem_15 rfl (lv_at hl 0 rfl) ?_
    refine lv_iconst (v := (0 : Int32)) hx hb dX5_readsItem_16 (by decide) ?_
    refine lv_bipush (v := (99 : Int32)) hx hb dX5_readsItem_17 (by decide) ?_
    obtain ⟨r_133, o_next_134, o_token_135, o_place_136, o_value_137, o_fault_138, hc, hf⟩ := pb6 hf
    refine gCi (va_runV (As := [.int (0 : Int32), .int (99 : Int32)]) (rest := [.int ((6 : Int32) + o_draftTrades), .ref a_o_need]) hF (kX5_number l dC dI Z cC cI cZ cW a_o a_o_text a_o_need a_o_made a_o_skillTold a_o_placeTold a_o_skips a_o_wheelTold a_o_tunes a_o_s a_o_spare a_o_kept a_o_isKept a_o_makes a_o_works a_o_order _ o_thrown o_trace o_typed o_next o_token o_place o_value o_fault o_trades o_people o_draftTrades o_draftPeople o_isShut o_falling o_text (0 : Int32) (99 : Int32) N r_133 o_next_134 o_token_135 o_place_136 o_value_137 o_fault_138 hc) (cwV 2 hts gX5_readsItem_X5_number rfl rfl rfl (by decide +kernel) ⟨Nat.le_of_ble_eq_true rfl, Nat.le_of_ble_eq_true rfl⟩) (gPV (wc := [(a_o, .inr (5, [.int o_thrown, .long o_trace, .ref a_o_text, .int o_typed, .int o_next, .int o_token, .int o_place, .int o_value, .int o_fault, .ref a_o_need, .ref a_o_made, .ref a_o_skillTold, .ref a_o_placeTold, .ref a_o_skips, .ref a_o_wheelTold, .int o_trades, .int o_people, .int o_draftTrades, .int o_draftPeople, .int o_isShut, .ref a_o_tunes, .ref a_o_s, .ref a_o_spare, .ref a_o_kept, .ref a_o_isKept, .ref a_o_makes, .ref a_o_works, .ref a_o_order, .int o_falling])), (a_o_text, .inl (cI, 400, .inl o_text))]) hK hN hA hS hP hD [0, 1] rfl rfl (q0 := 0) (ci := 5) rfl rfl rfl) rfl rfl hl.1 rfl (lv_room (Nat.le_of_ble_eq_true rfl)) dX5_readsItem_19 ⟨Nat.zero_le _, Nat.zero_le _⟩) hP hD hS hA [0, 1] rfl rfl rfl (fun H locs hP hD hS => ?_)
    have hP : va_P (dC, dI) vwCl [(a_o, .inr (5, [.int o_thrown, .long o_trace, .ref a_o_text, .int o_typed, .int o_next_134, .int o_token_135, .int o_place_136, .int o_value_137, .int o_fault_138, .ref a_o_need, .ref a_o_made, .ref a_o_skillTold, .ref a_o_placeTold, .ref a_o_skips, .ref a_o_wheelTold, .int o_trades, .int o_people, .int o_draftTrades, .int o_draftPeople, .int o_isShut, .ref a_o_tunes, .ref a_o_s, .ref a_o_spare, .ref a_o_kept, .ref a_o_isKept, .ref a_o_makes, .ref a_o_works, .ref a_o_order, .int o_falling])), (a_o_text, .inl (cI, 400, .inl o_text)), (a_o_need, .inl (cI, 12, .inl o_need)), (a_o_made, .inl (cI, 12, .inl o_made)), (a_o_skillTold, .inl (cI, 72, .inl o_skillTold)), (a_o_placeTold, .inl (cI, 12, .inl o_placeTold)), (a_o_skips, .inl (cI, 12, .inl o_skips)), (a_o_wheelTold, .inl (cI, 12, .inl o_wheelTold))] H := hP
    have hD : va_D A [(a_o, .inr (5, [.int o_thrown, .long o_trace, .ref a_o_text, .int o_typed, .int o_next_134, .int o_token_135, .int o_place_136, .int o_value_137, .int o_fault_138, .ref a_o_need, .ref a_o_made, .ref a_o_skillTold, .ref a_o_placeTold, .ref a_o_skips, .ref a_o_wheelTold, .int o_trades, .int o_people, .int o_draftTrades, .int o_draftPeople, .int o_isShut, .ref a_o_tunes, .ref a_o_s, .ref a_o_spare, .ref a_o_kept, .ref a_o_isKept, .ref a_o_makes, .ref a_o_works, .ref a_o_order, .int o_falling])), (a_o_text, .inl (cI, 400, .inl o_text)), (a_o_need, .inl (cI, 12, .inl o_need)), (a_o_made, .inl (cI, 12, .inl o_made)), (a_o_skillTold, .inl (cI, 72, .inl o_skillTold)), (a_o_placeTold, .inl (cI, 12, .inl o_placeTold)), (a_o_skips, .inl (cI, 12, .inl o_skips)), (a_o_wheelTold, .inl (cI, 12, .inl o_wheelTold))] := hD
    obtain ⟨h_139, hf⟩ := pgd hf
    refine va_iast hx hb hK hP hD hS 2 1 rfl rfl h_139 dX5_readsItem_22 (fun H locs hP hD hS => ?_)
    have hP : va_P (dC, dI) vwCl [(a_o, .inr (5, [.int o_thrown, .long o_trace, .ref a_o_text, .int o_typed, .int o_next_134, .int o_token_135, .int o_place_136, .int o_value_137, .int o_fault_138, .ref a_o_need, .ref a_o_made, .ref a_o_skillTold, .ref a_o_placeTold, .ref a_o_skips, .ref a_o_wheelTold, .int o_trades, .int o_people, .int o_draftTrades, .int o_draftPeople, .int o_isShut, .ref a_o_tunes, .ref a_o_s, .ref a_o_spare, .ref a_o_kept, .ref a_o_isKept, .ref a_o_makes, .ref a_o_works, .ref a_o_order, .int o_falling])), (a_o_text, .inl (cI, 400, .inl o_text)), (a_o_need, .inl (cI, 12, .inl (upd o_need ((6 : Int32) + o_draftTrades).toNatClampNeg r_133))), (a_o_made, .inl (cI, 12, .inl o_made)), (a_o_skillTold, .inl (cI, 72, .inl o_skillTold)), (a_o_placeTold, .inl (cI, 12, .inl o_placeTold)), (a_o_skips, .inl (cI, 12, .inl o_skips)), (a_o_wheelTold, .inl (cI, 12, .inl o_wheelTold))] H := hP
    have hD : va_D A [(a_o, .inr (5, [.int o_thrown, .long o_trace, .ref a_o_text, .int o_typed, .int o_next_134, .int o_token_135, .int o_place_136, .int o_value_137, .int o_fault_138, .ref a_o_need, .ref a_o_made, .ref a_o_skillTold, .ref a_o_placeTold, .ref a_o_skips, .ref a_o_wheelTold, .int o_trades, .int o_people, .int o_draftTrades, .int o_draftPeople, .int o_isShut, .ref a_o_tunes, .ref a_o_s, .ref a_o_spare, .ref a_o_kept, .ref a_o_isKept, .ref a_o_makes, .ref a_o_works, .ref a_o_order, .int o_falling])), (a_o_text, .inl (cI, 400, .inl o_text)), (a_o_need, .inl (cI, 12, .inl (upd o_need ((6 : Int32) + o_draftTrades).toNatClampNeg r_133))), (a_o_made, .inl (cI, 12, .inl o_made)), (a_o_skillTold, .inl (cI, 72, .inl o_skillTold)), (a_o_placeTold, .inl (cI, 12, .inl o_placeTold)), (a_o_skips, .inl (cI, 12, .inl o_skips)), (a_o_wheelTold, .inl (cI, 12, .inl o_wheelTold))] := hD
    refine lv_aload_n hx hb dX5_readsItem_23 rfl (lv_at hl 0 rfl) ?_
    refine va_get (D := (dC, dI)) (ci := 5) (v := .ref a_o_made) (C := RX5) (T := TX5) (N := 29) hx hb hts uX5_readsItem_X5 hown hK hP 0 rfl rfl 10 (by decide) (hts _ mX5_readsItem_7) (fun _ h9 => h9) rfl dX5_readsItem_24 ?_
    refine lv_bipush (v := (6 : Int32)) hx hb dX5_readsItem_27 (by decide) ?_
    refine lv_aload_n hx hb dX5_readsItem_29 rfl (lv_at hl 0 rfl) ?_
    refine va_get (D := (dC, dI)) (ci := 5) (v := .int o_draftTrades) (C := RX5) (T := TX5) (N := 29) hx hb hts uX5_readsItem_X5 hown hK hP 0 rfl rfl 17 (by decide) (hts _ mX5_readsItem_1) (fun _ h9 => h9) rfl dX5_readsItem_30 ?_
    refine lv_iadd hx hb dX5_readsItem_33 ?_
    refine lv_aload_n hx hb dX5_readsItem_34 rfl (lv_at hl 0 rfl) ?_
    refine lv_iconst (v := (1 : Int32)) hx hb dX5_readsItem_35 (by decide) ?_
    refine lv_bipush (v := (9 : Int32)) hx hb dX5_readsItem_36 (by decide) ?_
    obtain ⟨r_140, o_next_141, o_token_142, o_place_143, o_value_144, o_fault_145, hc, hf⟩ := pb6 hf
    refine gCi (va_runV (As := [.int (1 : Int32), .int (9 : Int32)]) (rest := [.int ((6 : Int32) + o_draftTrades), .ref a_o_made]) hF (kX5_number l dC dI Z cC cI cZ cW a_o a_o_text a_o_need a_o_made a_o_skillTold a_o_placeTold a_o_skips a_o_wheelTold a_o_tunes a_o_s a_o_spare a_o_kept a_o_isKept a_o_makes a_o_works a_o_order _ o_thrown o_trace o_typed o_next_134 o_token_135 o_place_136 o_value_137 o_fault_138 o_trades o_people o_draftTrades o_draftPeople o_isShut o_falling o_text (1 : Int32) (9 : Int32) N r_140 o_next_141 o_token_142 o_place_143 o_value_144 o_fault_145 hc) (cwV 2 hts gX5_readsItem_X5_number rfl rfl rfl (by decide +kernel) ⟨Nat.le_of_ble_eq_true rfl, Nat.le_of_ble_eq_true rfl⟩) (gPV (wc := [(a_o, .inr (5, [.int o_thrown, .long o_trace, .ref a_o_text, .int o_typed, .int o_next_134, .int o_token_135, .int o_place_136, .int o_value_137, .int o_fault_138, .ref a_o_need, .ref a_o_made, .ref a_o_skillTold, .ref a_o_placeTold, .ref a_o_skips, .ref a_o_wheelTold, .int o_trades, .int o_people, .int o_draftTrades, .int o_draftPeople, .int o_isShut, .ref a_o_tunes, .ref a_o_s, .ref a_o_spare, .ref a_o_kept, .ref a_o_isKept, .ref a_o_makes, .ref a_o_works, .ref a_o_order, .int o_falling])), (a_o_text, .inl (cI, 400, .inl o_text))]) hK hN hA hS hP hD [0, 1] rfl rfl (q0 := 0) (ci := 5) rfl rfl rfl) rfl rfl hl.1 rfl (lv_room (Nat.le_of_ble_eq_true rfl)) dX5_readsItem_38 ⟨Nat.zero_le _, Nat.zero_le _⟩) hP hD hS hA [0, 1] rfl rfl rfl (fun H locs hP hD hS => ?_)
    have hP : va_P (dC, dI) vwCl [(a_o, .inr (5, [.int o_thrown, .long o_trace, .ref a_o_text, .int o_typed, .int o_next_141, .int o_token_142, .int o_place_143, .int o_value_144, .int o_fault_145, .ref a_o_need, .ref a_o_made, .ref a_o_skillTold, .ref a_o_placeTold, .ref a_o_skips, .ref a_o_wheelTold, .int o_trades, .int o_people, .int o_draftTrades, .int o_draftPeople, .int o_isShut, .ref a_o_tunes, .ref a_o_s, .ref a_o_spare, .ref a_o_kept, .ref a_o_isKept, .ref a_o_makes, .ref a_o_works, .ref a_o_order, .int o_falling])), (a_o_text, .inl (cI, 400, .inl o_text)), (a_o_need, .inl (cI, 12, .inl (upd o_need ((6 : Int32) + o_draftTrades).toNatClampNeg r_133))), (a_o_made, .inl (cI, 12, .inl o_made)), (a_o_skillTold, .inl (cI, 72, .inl o_skillTold)), (a_o_placeTold, .inl (cI, 12, .inl o_placeTold)), (a_o_skips, .inl (cI, 12, .inl o_skips)), (a_o_wheelTold, .inl (cI, 12, .inl o_wheelTold))] H := hP
    have hD : va_D A [(a_o, .inr (5, [.int o_thrown, .long o_trace, .ref a_o_text, .int o_typed, .int o_next_141, .int o_token_142, .int o_place_143, .int o_value_144, .int o_fault_145, .ref a_o_need, .ref a_o_made, .ref a_o_skillTold, .ref a_o_placeTold, .ref a_o_skips, .ref a_o_wheelTold, .int o_trades, .int o_people, .int o_draftTrades, .int o_draftPeople, .int o_isShut, .ref a_o_tunes, .ref a_o_s, .ref a_o_spare, .ref a_o_kept, .ref a_o_isKept, .ref a_o_makes, .ref a_o_works, .ref a_o_order, .int o_falling])), (a_o_text, .inl (cI, 400, .inl o_text)), (a_o_need, .inl (cI, 12, .inl (upd o_need ((6 : Int32) + o_draftTrades).toNatClampNeg r_133))), (a_o_made, .inl (cI, 12, .inl o_made)), (a_o_skillTold, .inl (cI, 72, .inl o_skillTold)), (a_o_placeTold, .inl (cI, 12, .inl o_placeTold)), (a_o_skips, .inl (cI, 12, .inl o_skips)), (a_o_wheelTold, .inl (cI, 12, .inl o_wheelTold))] := hD
    obtain ⟨h_146, hf⟩ := pgd hf
    refine va_iast hx hb hK hP hD hS 3 1 rfl rfl h_146 dX5_readsItem_41 (fun H locs hP hD hS => ?_)
    have hP : va_P (dC, dI) vwCl [(a_o, .inr (5, [.int o_thrown, .long o_trace, .ref a_o_text, .int o_typed, .int o_next_141, .int o_token_142, .int o_place_143, .int o_value_144, .int o_fault_145, .ref a_o_need, .ref a_o_made, .ref a_o_skillTold, .ref a_o_placeTold, .ref a_o_skips, .ref a_o_wheelTold, .int o_trades, .int o_people, .int o_draftTrades, .int o_draftPeople, .int o_isShut, .ref a_o_tunes, .ref a_o_s, .ref a_o_spare, .ref a_o_kept, .ref a_o_isKept, .ref a_o_makes, .ref a_o_works, .ref a_o_order, .int o_falling])), (a_o_text, .inl (cI, 400, .inl o_text)), (a_o_need, .inl (cI, 12, .inl (upd o_need ((6 : Int32) + o_draftTrades).toNatClampNeg r_133))), (a_o_made, .inl (cI, 12, .inl (upd o_made ((6 : Int32) + o_draftTrades).toNatClampNeg r_140))), (a_o_skillTold, .inl (cI, 72, .inl o_skillTold)), (a_o_placeTold, .inl (cI, 12, .inl o_placeTold)), (a_o_skips, .inl (cI, 12, .inl o_skips)), (a_o_wheelTold, .inl (cI, 12, .inl o_wheelTold))] H := hP
    have hD : va_D A [(a_o, .inr (5, [.int o_thrown, .long o_trace, .ref a_o_text, .int o_typed, .int o_next_141, .int o_token_142, .int o_place_143, .int o_value_144, .int o_fault_145, .ref a_o_need, .ref a_o_made, .ref a_o_skillTold, .ref a_o_placeTold, .ref a_o_skips, .ref a_o_wheelTold, .int o_trades, .int o_people, .int o_draftTrades, .int o_draftPeople, .int o_isShut, .ref a_o_tunes, .ref a_o_s, .ref a_o_spare, .ref a_o_kept, .ref a_o_isKept, .ref a_o_makes, .ref a_o_works, .ref a_o_order, .int o_falling])), (a_o_text, .inl (cI, 400, .inl o_text)), (a_o_need, .inl (cI, 12, .inl (upd o_need ((6 : Int32) + o_draftTrades).toNatClampNeg r_133))), (a_o_made, .inl (cI, 12, .inl (upd o_made ((6 : Int32) + o_draftTrades).toNatClampNeg r_140))), (a_o_skillTold, .inl (cI, 72, .inl o_skillTold)), (a_o_placeTold, .inl (cI, 12, .inl o_placeTold)), (a_o_skips, .inl (cI, 12, .inl o_skips)), (a_o_wheelTold, .inl (cI, 12, .inl o_wheelTold))] := hD
    refine lv_aload_n hx hb dX5_readsItem_42 rfl (lv_at hl 0 rfl) ?_
    refine va_get (D := (dC, dI)) (ci := 5) (v := .ref a_o_wheelTold) (C := RX5) (T := TX5) (N := 29) hx hb hts uX5_readsItem_X5 hown hK hP 0 rfl rfl 14 (by decide) (hts _ mX5_readsItem_8) (fun _ h9 => h9) rfl dX5_readsItem_43 ?_
    refine lv_bipush (v := (6 : Int32)) hx hb dX5_readsItem_46 (by decide) ?_
    refine lv_aload_n hx hb dX5_readsItem_48 rfl (lv_at hl 0 rfl) ?_
    refine va_get (D := (dC, dI)) (ci := 5) (v := .int o_draftTrades) (C := RX5) (T := TX5) (N := 29) hx hb hts uX5_readsItem_X5 hown hK hP 0 rfl rfl 17 (by decide) (hts _ mX5_readsItem_1) (fun _ h9 => h9) rfl dX5_readsItem_49 ?_
    refine lv_iadd hx hb dX5_readsItem_52 ?_
    refine lv_aload_n hx hb dX5_readsItem_53 rfl (lv_at hl 0 rfl) ?_
    refine va_get (D := (dC, dI)) (ci := 5) (v := .int o_draftTrades) (C := RX5) (T := TX5) (N := 29) hx hb hts uX5_readsItem_X5 hown hK hP 0 rfl rfl 17 (by decide) (hts _ mX5_readsItem_1) (fun _ h9 => h9) rfl dX5_readsItem_54 ?_
    obtain ⟨h_147, hf⟩ := pgd hf
    refine va_iast hx hb hK hP hD hS 7 1 rfl rfl h_147 dX5_readsItem_57 (fun H locs hP hD hS => ?_)
    have hP : va_P (dC, dI) vwCl [(a_o, .inr (5, [.int o_thrown, .long o_trace, .ref a_o_text, .int o_typed, .int o_next_141, .int o_token_142, .int o_place_143, .int o_value_144, .int o_fault_145, .ref a_o_need, .ref a_o_made, .ref a_o_skillTold, .ref a_o_placeTold, .ref a_o_skips, .ref a_o_wheelTold, .int o_trades, .int o_people, .int o_draftTrades, .int o_draftPeople, .int o_isShut, .ref a_o_tunes, .ref a_o_s, .ref a_o_spare, .ref a_o_kept, .ref a_o_isKept, .ref a_o_makes, .ref a_o_works, .ref a_o_order, .int o_falling])), (a_o_text, .inl (cI, 400, .inl o_text)), (a_o_need, .inl (cI, 12, .inl (upd o_need ((6 : Int32) + o_draftTrades).toNatClampNeg r_133))), (a_o_made, .inl (cI, 12, .inl (upd o_made ((6 : Int32) + o_draftTrades).toNatClampNeg r_140))), (a_o_skillTold, .inl (cI, 72, .inl o_skillTold)), (a_o_placeTold, .inl (cI, 12, .inl o_placeTold)), (a_o_skips, .inl (cI, 12, .inl o_skips)), (a_o_wheelTold, .inl (cI, 12, .inl (upd o_wheelTold ((6 : Int32) + o_draftTrades).toNatClampNeg o_draftTrades)))] H := hP
    have hD : va_D A [(a_o, .inr (5, [.int o_thrown, .long o_trace, .ref a_o_text, .int o_typed, .int o_next_141, .int o_token_142, .int o_place_143, .int o_value_144, .int o_fault_145, .ref a_o_need, .ref a_o_made, .ref a_o_skillTold, .ref a_o_placeTold, .ref a_o_skips, .ref a_o_wheelTold, .int o_trades, .int o_people, .int o_draftTrades, .int o_draftPeople, .int o_isShut, .ref a_o_tunes, .ref a_o_s, .ref a_o_spare, .ref a_o_kept, .ref a_o_isKept, .ref a_o_makes, .ref a_o_works, .ref a_o_order, .int o_falling])), (a_o_text, .inl (cI, 400, .inl o_text)), (a_o_need, .inl (cI, 12, .inl (upd o_need ((6 : Int32) + o_draftTrades).toNatClampNeg r_133))), (a_o_made, .inl (cI, 12, .inl (upd o_made ((6 : Int32) + o_draftTrades).toNatClampNeg r_140))), (a_o_skillTold, .inl (cI, 72, .inl o_skillTold)), (a_o_placeTold, .inl (cI, 12, .inl o_placeTold)), (a_o_skips, .inl (cI, 12, .inl o_skips)), (a_o_wheelTold, .inl (cI, 12, .inl (upd o_wheelTold ((6 : Int32) + o_draftTrades).toNatClampNeg o_draftTrades)))] := hD
    refine lv_aload_n hx hb dX5_readsItem_58 rfl (lv_at hl 0 rfl) ?_
    refine lv_dup hx hb dX5_readsItem_59 rfl ?_
    refine va_get (D := (dC, dI)) (ci := 5) (v := .int o_draftTrades) (C := RX5) (T := TX5) (N := 29) hx hb hts uX5_readsItem_X5 hown hK hP 0 rfl rfl 17 (by decide) (hts _ mX5_readsItem_1) (fun _ h9 => h9) rfl dX5_readsItem_60 ?_
    refine lv_iconst (v := (1 : Int32)) hx hb dX5_readsItem_63 (by decide) ?_
    refine lv_iadd hx hb dX5_readsItem_64 ?_
    refine va_put (D := (dC, dI)) (ci := 5) (v := .int (o_draftTrades + (1 : Int32))) (ty := .int) (C := RX5) (T := TX5) (N := 29) hx hb hts uX5_readsItem_X5 tyX5 tyX5_ok nmX5 hown hK hP hD hS 0 rfl rfl 17 (by decide) (hts _ mX5_readsItem_1) (fun _ h9 => h9) rfl (by decide +kernel) rfl rfl (Nat.le_of_ble_eq_true rfl) dX5_readsItem_65 (fun H locs hP hD hS => ?_)
    have hP : va_P (dC, dI) vwCl [(a_o, .inr (5, [.int o_thrown, .long o_trace, .ref a_o_text, .int o_typed, .int o_next_141, .int o_token_142, .int o_place_143, .int o_value_144, .int o_fault_145, .ref a_o_need, .ref a_o_made, .ref a_o_skillTold, .ref a_o_placeTold, .ref a_o_skips, .ref a_o_wheelTold, .int o_trades, .int o_people, .int (o_draftTrades + (1 : Int32)), .int o_draftPeople, .int o_isShut, .ref a_o_tunes, .ref a_o_s, .ref a_o_spare, .ref a_o_kept, .ref a_o_isKept, .ref a_o_makes, .ref a_o_works, .ref a_o_order, .int o_falling])), (a_o_text, .inl (cI, 400, .inl o_text)), (a_o_need, .inl (cI, 12, .inl (upd o_need ((6 : Int32) + o_draftTrades).toNatClampNeg r_133))), (a_o_made, .inl (cI, 12, .inl (upd o_made ((6 : Int32) + o_draftTrades).toNatClampNeg r_140))), (a_o_skillTold, .inl (cI, 72, .inl o_skillTold)), (a_o_placeTold, .inl (cI, 12, .inl o_placeTold)), (a_o_skips, .inl (cI, 12, .inl o_skips)), (a_o_wheelTold, .inl (cI, 12, .inl (upd o_wheelTold ((6 : Int32) + o_draftTrades).toNatClampNeg o_draftTrades)))] H := hP
    have hD : va_D A [(a_o, .inr (5, [.int o_thrown, .long o_trace, .ref a_o_text, .int o_typed, .int o_next_141, .int o_token_142, .int o_place_143, .int o_value_144, .int o_fault_145, .ref a_o_need, .ref a_o_made, .ref a_o_skillTold, .ref a_o_placeTold, .ref a_o_skips, .ref a_o_wheelTold, .int o_trades, .int o_people, .int (o_draftTrades + (1 : Int32)), .int o_draftPeople, .int o_isShut, .ref a_o_tunes, .ref a_o_s, .ref a_o_spare, .ref a_o_kept, .ref a_o_isKept, .ref a_o_makes, .ref a_o_works, .ref a_o_order, .int o_falling])), (a_o_text, .inl (cI, 400, .inl o_text)), (a_o_need, .inl (cI, 12, .inl (upd o_need ((6 : Int32) + o_draftTrades).toNatClampNeg r_133))), (a_o_made, .inl (cI, 12, .inl (upd o_made ((6 : Int32) + o_draftTrades).toNatClampNeg r_140))), (a_o_skillTold, .inl (cI, 72, .inl o_skillTold)), (a_o_placeTold, .inl (cI, 12, .inl o_placeTold)), (a_o_skips, .inl (cI, 12, .inl o_skips)), (a_o_wheelTold, .inl (cI, 12, .inl (upd o_wheelTold ((6 : Int32) + o_draftTrades).toNatClampNeg o_draftTrades)))] := hD
    refine lv_goto (tgt := 280) hx hb dX5_readsItem_68 (by decide) ?_
    refine lv_aload_n hx hb dX5_readsItem_280 rfl (lv_at hl 0 rfl) ?_
    refine lv_aload_n hx hb dX5_readsItem_281 rfl (lv_at hl 0 rfl) ?_
    refine va_get (D := (dC, dI)) (ci := 5) (v := .int o_isShut) (C := RX5) (T := TX5) (N := 29) hx hb hts uX5_readsItem_X5 hown hK hP 0 rfl rfl 19 (by decide) (hts _ mX5_readsItem_2) (fun _ h9 => h9) rfl dX5_readsItem_282 ?_
    refine lv_if_ne (tgt := 293) hx hb dX5_readsItem_285 (by decide) (fun c_148 => ?_) (fun c_148 => ?_)
    · have hf := pif hf c_148
      refine lv_iconst (v := (1 : Int32)) hx hb dX5_readsItem_293 (by decide) ?_
      refine lv_goto (tgt := 298) hx hb dX5_readsItem_294 (by decide) ?_
      refine va_put (D := (dC, dI)) (ci := 5) (v := .int (1 : Int32)) (ty := .boolean) (C := RX5) (T := TX5) (N := 29) hx hb hts uX5_readsItem_X5 tyX5 tyX5_ok nmX5 hown hK hP hD hS 0 rfl rfl 19 (by decide) (hts _ mX5_readsItem_2) (fun _ h9 => h9) rfl (by decide +kernel) rfl rfl (Nat.le_of_ble_eq_true rfl) dX5_readsItem_298 (fun H locs hP hD hS => ?_)
      have hP : va_P (dC, dI) vwCl [(a_o, .inr (5, [.int o_thrown, .long o_trace, .ref a_o_text, .int o_typed, .int o_next_141, .int o_token_142, .int o_place_143, .int o_value_144, .int o_fault_145, .ref a_o_need, .ref a_o_made, .ref a_o_skillTold, .ref a_o_placeTold, .ref a_o_skips, .ref a_o_wheelTold, .int o_trades, .int o_people, .int (o_draftTrades + (1 : Int32)), .int o_draftPeople, .int (1 : Int32), .ref a_o_tunes, .ref a_o_s, .ref a_o_spare, .ref a_o_kept, .ref a_o_isKept, .ref a_o_makes, .ref a_o_works, .ref a_o_order, .int o_falling])), (a_o_text, .inl (cI, 400, .inl o_text)), (a_o_need, .inl (cI, 12, .inl (upd o_need ((6 : Int32) + o_draftTrades).toNatClampNeg r_133))), (a_o_made, .inl (cI, 12, .inl (upd o_made ((6 : Int32) + o_draftTrades).toNatClampNeg r_140))), (a_o_skillTold, .inl (cI, 72, .inl o_skillTold)), (a_o_placeTold, .inl (cI, 12, .inl o_placeTold)), (a_o_skips, .inl (cI, 12, .inl o_skips)), (a_o_wheelTold, .inl (cI, 12, .inl (upd o_wheelTold ((6 : Int32) + o_draftTrades).toNatClampNeg o_draftTrades)))] H := hP
      have hD : va_D A [(a_o, .inr (5, [.int o_thrown, .long o_trace, .ref a_o_text, .int o_typed, .int o_next_141, .int o_token_142, .int o_place_143, .int o_value_144, .int o_fault_145, .ref a_o_need, .ref a_o_made, .ref a_o_skillTold, .ref a_o_placeTold, .ref a_o_skips, .ref a_o_wheelTold, .int o_trades, .int o_people, .int (o_draftTrades + (1 : Int32)), .int o_draftPeople, .int (1 : Int32), .ref a_o_tunes, .ref a_o_s, .ref a_o_spare, .ref a_o_kept, .ref a_o_isKept, .ref a_o_makes, .ref a_o_works, .ref a_o_order, .int o_falling])), (a_o_text, .inl (cI, 400, .inl o_text)), (a_o_need, .inl (cI, 12, .inl (upd o_need ((6 : Int32) + o_draftTrades).toNatClampNeg r_133))), (a_o_made, .inl (cI, 12, .inl (upd o_made ((6 : Int32) + o_draftTrades).toNatClampNeg r_140))), (a_o_skillTold, .inl (cI, 72, .inl o_skillTold)), (a_o_placeTold, .inl (cI, 12, .inl o_placeTold)), (a_o_skips, .inl (cI, 12, .inl o_skips)), (a_o_wheelTold, .inl (cI, 12, .inl (upd o_wheelTold ((6 : Int32) + o_draftTrades).toNatClampNeg o_draftTrades)))] := hD
      have q0 := Option.some.inj hf
      obtain ⟨e0, q1⟩ := Prod.mk.inj q0
      obtain ⟨e1, q2⟩ := Prod.mk.inj q1
      obtain ⟨e2, q3⟩ := Prod.mk.inj q2
      obtain ⟨e3, q4⟩ := Prod.mk.inj q3
      obtain ⟨e4, q5⟩ := Prod.mk.inj q4
      obtain ⟨e5, q6⟩ := Prod.mk.inj q5
      obtain ⟨e6, q7⟩ := Prod.mk.inj q6
      obtain ⟨e7, q8⟩ := Prod.mk.inj q7
      obtain ⟨e8, q9⟩ := Prod.mk.inj q8
      obtain ⟨e9, q10⟩ := Prod.mk.inj q9
      obtain ⟨e10, q11⟩ := Prod.mk.inj q10
      obtain ⟨e11, q12⟩ := Prod.mk.inj q11
      obtain ⟨e12, q13⟩ := Prod.mk.inj q12
      subst e0
      subst e1
      subst e2
      subst e3
      subst e4
      subst e5
      subst e6
      subst e7
      subst e8
      subst e9
      subst e10
      subst e11
      subst e12
      subst q13
      exact gRv hx hb hr hlocks hP hS dX5_readsItem_301
    · have hf := pit hf c_148
      refine lv_iload_n hx hb dX5_readsItem_288 rfl (lv_at hl 1 rfl) ?_
      refine lv_iconst (v := (1 : Int32)) hx hb dX5_readsItem_289 (by decide) ?_
      refine lv_icmp_le (tgt := 297) hx hb dX5_readsItem_290 (by decide) (fun c_149 => ?_) (fun c_149 => ?_)
      · have hf := pit hf c_149
        refine lv_iconst (v := (0 : Int32)) hx hb dX5_readsItem_297 (by decide) ?_
        refine va_put (D := (dC, dI)) (ci := 5) (v := .int (0 : Int32)) (ty := .boolean) (C := RX5) (T := TX5) (N := 29) hx hb hts uX5_readsItem_X5 tyX5 tyX5_ok nmX5 hown hK hP hD hS 0 rfl rfl 19 (by decide) (hts _ mX5_readsItem_2) (fun _ h9 => h9) rfl (by decide +kernel) rfl rfl (Nat.le_of_ble_eq_true rfl) dX5_readsItem_298 (fun H locs hP hD hS => ?_)
        have hP : va_P (dC, dI) vwCl [(a_o, .inr (5, [.int o_thrown, .long o_trace, .ref a_o_text, .int o_typed, .int o_next_141, .int o_token_142, .int o_place_143, .int o_value_144, .int o_fault_145, .ref a_o_need, .ref a_o_made, .ref a_o_skillTold, .ref a_o_placeTold, .ref a_o_skips, .ref a_o_wheelTold, .int o_trades, .int o_people, .int (o_draftTrades + (1 : Int32)), .int o_draftPeople, .int (0 : Int32), .ref a_o_tunes, .ref a_o_s, .ref a_o_spare, .ref a_o_kept, .ref a_o_isKept, .ref a_o_makes, .ref a_o_works, .ref a_o_order, .int o_falling])), (a_o_text, .inl (cI, 400, .inl o_text)), (a_o_need, .inl (cI, 12, .inl (upd o_need ((6 : Int32) + o_draftTrades).toNatClampNeg r_133))), (a_o_made, .inl (cI, 12, .inl (upd o_made ((6 : Int32) + o_draftTrades).toNatClampNeg r_140))), (a_o_skillTold, .inl (cI, 72, .inl o_skillTold)), (a_o_placeTold, .inl (cI, 12, .inl o_placeTold)), (a_o_skips, .inl (cI, 12, .inl o_skips)), (a_o_wheelTold, .inl (cI, 12, .inl (upd o_wheelTold ((6 : Int32) + o_draftTrades).toNatClampNeg o_draftTrades)))] H := hP
        have hD : va_D A [(a_o, .inr (5, [.int o_thrown, .long o_trace, .ref a_o_text, .int o_typed, .int o_next_141, .int o_token_142, .int o_place_143, .int o_value_144, .int o_fault_145, .ref a_o_need, .ref a_o_made, .ref a_o_skillTold, .ref a_o_placeTold, .ref a_o_skips, .ref a_o_wheelTold, .int o_trades, .int o_people, .int (o_draftTrades + (1 : Int32)), .int o_draftPeople, .int (0 : Int32), .ref a_o_tunes, .ref a_o_s, .ref a_o_spare, .ref a_o_kept, .ref a_o_isKept, .ref a_o_makes, .ref a_o_works, .ref a_o_order, .int o_falling])), (a_o_text, .inl (cI, 400, .inl o_text)), (a_o_need, .inl (cI, 12, .inl (upd o_need ((6 : Int32) + o_draftTrades).toNatClampNeg r_133))), (a_o_made, .inl (cI, 12, .inl (upd o_made ((6 : Int32) + o_draftTrades).toNatClampNeg r_140))), (a_o_skillTold, .inl (cI, 72, .inl o_skillTold)), (a_o_placeTold, .inl (cI, 12, .inl o_placeTold)), (a_o_skips, .inl (cI, 12, .inl o_skips)), (a_o_wheelTold, .inl (cI, 12, .inl (upd o_wheelTold ((6 : Int32) + o_draftTrades).toNatClampNeg o_draftTrades)))] := hD
        have q0 := Option.some.inj hf
        obtain ⟨e0, q1⟩ := Prod.mk.inj q0
        obtain ⟨e1, q2⟩ := Prod.mk.inj q1
        obtain ⟨e2, q3⟩ := Prod.mk.inj q2
        obtain ⟨e3, q4⟩ := Prod.mk.inj q3
        obtain ⟨e4, q5⟩ := Prod.mk.inj q4
        obtain ⟨e5, q6⟩ := Prod.mk.inj q5
        obtain ⟨e6, q7⟩ := Prod.mk.inj q6
        obtain ⟨e7, q8⟩ := Prod.mk.inj q7
        obtain ⟨e8, q9⟩ := Prod.mk.inj q8
        obtain ⟨e9, q10⟩ := Prod.mk.inj q9
        obtain ⟨e10, q11⟩ := Prod.mk.inj q10
        obtain ⟨e11, q12⟩ := Prod.mk.inj q11
        obtain ⟨e12, q13⟩ := Prod.mk.inj q12
        subst e0
        subst e1
        subst e2
        subst e3
        subst e4
        subst e5
        subst e6
        subst e7
        subst e8
        subst e9
        subst e10
        subst e11
        subst e12
        subst q13
        exact gRv hx hb hr hlocks hP hS dX5_readsItem_301
      · have hf := pif hf c_149
        refine lv_iconst (v := (1 : Int32)) hx hb dX5_readsItem_293 (by decide) ?_
        refine lv_goto (tgt := 298) hx hb dX5_readsItem_294 (by decide) ?_
        refine va_put (D := (dC, dI)) (ci := 5) (v := .int (1 : Int32)) (ty := .boolean) (C := RX5) (T := TX5) (N := 29) hx hb hts uX5_readsItem_X5 tyX5 tyX5_ok nmX5 hown hK hP hD hS 0 rfl rfl 19 (by decide) (hts _ mX5_readsItem_2) (fun _ h9 => h9) rfl (by decide +kernel) rfl rfl (Nat.le_of_ble_eq_true rfl) dX5_readsItem_298 (fun H locs hP hD hS => ?_)
        have hP : va_P (dC, dI) vwCl [(a_o, .inr (5, [.int o_thrown, .long o_trace, .ref a_o_text, .int o_typed, .int o_next_141, .int o_token_142, .int o_place_143, .int o_value_144, .int o_fault_145, .ref a_o_need, .ref a_o_made, .ref a_o_skillTold, .ref a_o_placeTold, .ref a_o_skips, .ref a_o_wheelTold, .int o_trades, .int o_people, .int (o_draftTrades + (1 : Int32)), .int o_draftPeople, .int (1 : Int32), .ref a_o_tunes, .ref a_o_s, .ref a_o_spare, .ref a_o_kept, .ref a_o_isKept, .ref a_o_makes, .ref a_o_works, .ref a_o_order, .int o_falling])), (a_o_text, .inl (cI, 400, .inl o_text)), (a_o_need, .inl (cI, 12, .inl (upd o_need ((6 : Int32) + o_draftTrades).toNatClampNeg r_133))), (a_o_made, .inl (cI, 12, .inl (upd o_made ((6 : Int32) + o_draftTrades).toNatClampNeg r_140))), (a_o_skillTold, .inl (cI, 72, .inl o_skillTold)), (a_o_placeTold, .inl (cI, 12, .inl o_placeTold)), (a_o_skips, .inl (cI, 12, .inl o_skips)), (a_o_wheelTold, .inl (cI, 12, .inl (upd o_wheelTold ((6 : Int32) + o_draftTrades).toNatClampNeg o_draftTrades)))] H := hP
        have hD : va_D A [(a_o, .inr (5, [.int o_thrown, .long o_trace, .ref a_o_text, .int o_typed, .int o_next_141, .int o_token_142, .int o_place_143, .int o_value_144, .int o_fault_145, .ref a_o_need, .ref a_o_made, .ref a_o_skillTold, .ref a_o_placeTold, .ref a_o_skips, .ref a_o_wheelTold, .int o_trades, .int o_people, .int (o_draftTrades + (1 : Int32)), .int o_draftPeople, .int (1 : Int32), .ref a_o_tunes, .ref a_o_s, .ref a_o_spare, .ref a_o_kept, .ref a_o_isKept, .ref a_o_makes, .ref a_o_works, .ref a_o_order, .int o_falling])), (a_o_text, .inl (cI, 400, .inl o_text)), (a_o_need, .inl (cI, 12, .inl (upd o_need ((6 : Int32) + o_draftTrades).toNatClampNeg r_133))), (a_o_made, .inl (cI, 12, .inl (upd o_made ((6 : Int32) + o_draftTrades).toNatClampNeg r_140))), (a_o_skillTold, .inl (cI, 72, .inl o_skillTold)), (a_o_placeTold, .inl (cI, 12, .inl o_placeTold)), (a_o_skips, .inl (cI, 12, .inl o_skips)), (a_o_wheelTold, .inl (cI, 12, .inl (upd o_wheelTold ((6 : Int32) + o_draftTrades).toNatClampNeg o_draftTrades)))] := hD
        have q0 := Option.some.inj hf
        obtain ⟨e0, q1⟩ := Prod.mk.inj q0
        obtain ⟨e1, q2⟩ := Prod.mk.inj q1
        obtain ⟨e2, q3⟩ := Prod.mk.inj q2
        obtain ⟨e3, q4⟩ := Prod.mk.inj q3
        obtain ⟨e4, q5⟩ := Prod.mk.inj q4
        obtain ⟨e5, q6⟩ := Prod.mk.inj q5
        obtain ⟨e6, q7⟩ := Prod.mk.inj q6
        obtain ⟨e7, q8⟩ := Prod.mk.inj q7
        obtain ⟨e8, q9⟩ := Prod.mk.inj q8
        obtain ⟨e9, q10⟩ := Prod.mk.inj q9
        obtain ⟨e10, q11⟩ := Prod.mk.inj q10
        obtain ⟨e11, q12⟩ := Prod.mk.inj q11
        obtain ⟨e12, q13⟩ := Prod.mk.inj q12
        subst e0
        subst e1
        subst e2
        subst e3
        subst e4
        subst e5
        subst e6
        subst e7
        subst e8
        subst e9
        subst e10
        subst e11
        subst e12
        subst q13
        exact gRv hx hb hr hlocks hP hS dX5_readsItem_301
