abbrev rmX5_go : Room := { frames := 4, cells := 0, slots := 0, locals := 93 }
set_option maxRecDepth 20000 in
theorem uX5_go_X5 : ∀ w ∈ wsX50, w ∈ wsX5_go := by decide +kernel
set_option maxRecDepth 20000 in
theorem mX5_go_0 : (Cond.fieldLink RX5 59 "TradeWheelModel" "thrown" "I" : Cond) ∈ wsX5_go := by decide +kernel
set_option maxRecDepth 20000 in
theorem mX5_go_1 : (Cond.fieldLink RX5 34 "TradeWheelModel" "s" "[I" : Cond) ∈ wsX5_go := by decide +kernel
set_option maxRecDepth 20000 in
theorem mX5_go_2 : (Cond.fieldLink RX5 137 "TradeWheelModel" "trades" "I" : Cond) ∈ wsX5_go := by decide +kernel
set_option maxHeartbeats 4000000 in
set_option maxRecDepth 100000 in
theorem wX5_go_42 {p : Program} {l : Launch} {e : Env} {s : State} {m : MethodId} {args : Array Value} {below : List Frame} {meth : Method} {c : Code} {Q : State → Prop} {A : Nat → Prop} {dC : Nat → ClassId} {dI : Nat → Nat → Nat} {Z : gZ} {cC cI cZ cW : ClassId} (hg0 : gX p s m args meth c cX5_go 4 (some .int) wsX5_go RX5 (dC, dI) Z [(cC, .char), (cI, .int), (cZ, .boolean), (cW, .object RX3)] A) (a_o a_o_text a_o_need a_o_made a_o_skillTold a_o_placeTold a_o_skips a_o_wheelTold a_o_tunes a_o_s a_o_spare a_o_kept a_o_isKept a_o_makes a_o_works a_o_order : Nat) (o_thrown : Int32) (o_trace : Int64) (o_typed : Int32) (o_next : Int32) (o_token : Int32) (o_place : Int32) (o_value : Int32) (o_fault : Int32) (o_trades : Int32) (o_people : Int32) (o_draftTrades : Int32) (o_draftPeople : Int32) (o_isShut : Int32) (o_falling : Int32) (o_need : Nat → Int32) (o_made : Nat → Int32) (o_skips : Nat → Int32) (o_tunes : Nat → Int32) (l1 : Int32) (N : Nat) : ∀ (n : Nat) (o_s : Nat → Int32) (o_makes : Nat → Int32) (o_works : Nat → Int32) (l2 : Int32) (l3 : Int32) (o_s' : Nat → Int32) (o_makes' : Nat → Int32) (o_works' : Nat → Int32) (l2' : Int32) (l3' : Int32), fX5_go_42 N o_trades o_people o_need o_made o_skips o_tunes l1 n o_s o_makes o_works l2 l3 = some (o_s', o_makes', o_works', l2', l3') → ∀ (H : Heap) (locs : List Loc) (ls : Array Slot), va_P (dC, dI) vwCl [(a_o, .inr (5, [.int o_thrown, .long o_trace, .ref a_o_text, .int o_typed, .int o_next, .int o_token, .int o_place, .int o_value, .int o_fault, .ref a_o_need, .ref a_o_made, .ref a_o_skillTold, .ref a_o_placeTold, .ref a_o_skips, .ref a_o_wheelTold, .int o_trades, .int o_people, .int o_draftTrades, .int o_draftPeople, .int o_isShut, .ref a_o_tunes, .ref a_o_s, .ref a_o_spare, .ref a_o_kept, .ref a_o_isKept, .ref a_o_makes, .ref a_o_works, .ref a_o_order, .int o_falling])), (a_o_need, .inl (cI, 12, .inl o_need)), (a_o_made, .inl (cI, 12, .inl o_made)), (a_o_skips, .inl (cI, 12, .inl o_skips)), (a_o_tunes, .inl (cI, 3, .inl o_tunes)), (a_o_s, .inl (cI, 105, .inl o_s)), (a_o_makes, .inl (cI, 6, .inl o_makes)), (a_o_works, .inl (cI, 6, .inl o_works))] H → va_D A [(a_o, .inr (5, [.int o_thrown, .long o_trace, .ref a_o_text, .int o_typed, .int o_next, .int o_token, .int o_place, .int o_value, .int o_fault, .ref a_o_need, .ref a_o_made, .ref a_o_skillTold, .ref a_o_placeTold, .ref a_o_skips, .ref a_o_wheelTold, .int o_trades, .int o_people, .int o_draftTrades, .int o_draftPeople, .int o_isShut, .ref a_o_tunes, .ref a_o_s, .ref a_o_spare, .ref a_o_kept, .ref a_o_isKept, .ref a_o_makes, .ref a_o_works, .ref a_o_order, .int o_falling])), (a_o_need, .inl (cI, 12, .inl o_need)), (a_o_made, .inl (cI, 12, .inl o_made)), (a_o_skips, .inl (cI, 12, .inl o_skips)), (a_o_tunes, .inl (cI, 3, .inl o_tunes)), (a_o_s, .inl (cI, 105, .inl o_s)), (a_o_makes, .inl (cI, 6, .inl o_makes)), (a_o_works, .inl (cI, 6, .inl o_works))] → va_S A s.heap H locs → lv_has ls 4 [(0, .ref a_o), (1, .int l1), (2, .int l2), (3, .int l3)] → (∀ (H : Heap) (locs : List Loc) (ls : Array Slot), va_P (dC, dI) vwCl [(a_o, .inr (5, [.int o_thrown, .long o_trace, .ref a_o_text, .int o_typed, .int o_next, .int o_token, .int o_place, .int o_value, .int o_fault, .ref a_o_need, .ref a_o_made, .ref a_o_skillTold, .ref a_o_placeTold, .ref a_o_skips, .ref a_o_wheelTold, .int o_trades, .int o_people, .int o_draftTrades, .int o_draftPeople, .int o_isShut, .ref a_o_tunes, .ref a_o_s, .ref a_o_spare, .ref a_o_kept, .ref a_o_isKept, .ref a_o_makes, .ref a_o_works, .ref a_o_order, .int o_falling])), (a_o_need, .inl (cI, 12, .inl o_need)), (a_o_made, .inl (cI, 12, .inl o_made)), (a_o_skips, .inl (cI, 12, .inl o_skips)), (a_o_tunes, .inl (cI, 3, .inl o_tunes)), (a_o_s, .inl (cI, 105, .inl o_s')), (a_o_makes, .inl (cI, 6, .inl o_makes')), (a_o_works, .inl (cI, 6, .inl o_works'))] H → va_D A [(a_o, .inr (5, [.int o_thrown, .long o_trace, .ref a_o_text, .int o_typed, .int o_next, .int o_token, .int o_place, .int o_value, .int o_fault, .ref a_o_need, .ref a_o_made, .ref a_o_skillTold, .ref a_o_placeTold, .ref a_o_skips, .ref a_o_wheelTold, .int o_trades, .int o_people, .int o_draftTrades, .int o_draftPeople, .int o_isShut, .ref a_o_tunes, .ref a_o_s, .ref a_o_spare, .ref a_o_kept, .ref a_o_isKept, .ref a_o_makes, .ref a_o_works, .ref a_o_order, .int o_falling])), (a_o_need, .inl (cI, 12, .inl o_need)), (a_o_made, .inl (cI, 12, .inl o_made)), (a_o_skips, .inl (cI, 12, .inl o_skips)), (a_o_tunes, .inl (cI, 3, .inl o_tunes)), (a_o_s, .inl (cI, 105, .inl o_s')), (a_o_makes, .inl (cI, 6, .inl o_makes')), (a_o_works, .inl (cI, 6, .inl o_works'))] → va_S A s.heap H locs → lv_has ls 4 [(2, .int l2')] → W p l e (headSpec wsX5_go rmX5_go).room s m args below meth c H locs 0 0 Q (F0 m 71 ls [])) → W p l e (headSpec wsX5_go rmX5_go).room s m args below meth c H locs 0 0 Q (F0 m 42 ls []) := by
  obtain ⟨hx, hb, hr, hml, hown, hts, hlocks, hA, hK, hN⟩ := id hg0
  have hF : CallFix p m c cX5_go 4 s args wsX5_go RX5 := ⟨hx, hb, hml, hown, hts⟩
  intro n
  induction n with
  | zero =>
    intro o_s o_makes o_works l2 l3 o_s' o_makes' o_works' l2' l3' hf
    have hf := fX5_go_42_0.symm.trans hf
    cases hf
  | succ n ih =>
    intro o_s o_makes o_works l2 l3 o_s' o_makes' o_works' l2' l3' hf H locs ls hP hD hS hl kx
    have hf := fX5_go_42_s.symm.trans hf
    refine lv_iload_n hx hb dX5_go_42 rfl (lv_at hl 3 rfl) ?_
    refine lv_iload_n hx hb dX5_go_43 rfl (lv_at hl 1 rfl) ?_
    refine lv_icmp_ge (tgt := 71) hx hb dX5_go_44 (by decide) (fun c_1 => ?_) (fun c_1 => ?_)
    · have hf := pit hf c_1
      have q0 := Option.some.inj hf
      obtain ⟨e0, q1⟩ := Prod.mk.inj q0
      obtain ⟨e1, q2⟩ := Prod.mk.inj q1
      obtain ⟨e2, q3⟩ := Prod.mk.inj q2
      obtain ⟨e3, q4⟩ := Prod.mk.inj q3
      subst e0
      subst e1
      subst e2
      subst e3
      subst q4
      exact kx _ _ _ hP hD hS (lv_sub hl [2] rfl)
    · have hf := pif hf c_1
      refine lv_aload_n hx hb dX5_go_47 rfl (lv_at hl 0 rfl) ?_
      refine va_get (D := (dC, dI)) (ci := 5) (v := .ref a_o_s) (C := RX5) (T := TX5) (N := 29) hx hb hts uX5_go_X5 hown hK hP 0 rfl rfl 21 (by decide) (hts _ mX5_go_1) (fun _ h9 => h9) rfl dX5_go_48 ?_
      refine lv_iconst (v := (0 : Int32)) hx hb dX5_go_51 (by decide) ?_
      obtain ⟨h_2, hf⟩ := pgd hf
      refine va_iald hx hb hK hP 5 1 rfl rfl h_2 dX5_go_52 ?_
      refine lv_bipush (v := (99 : Int32)) hx hb dX5_go_53 (by decide) ?_
      refine lv_icmp_ge (tgt := 71) hx hb dX5_go_55 (by decide) (fun c_3 => ?_) (fun c_3 => ?_)
      · have hf := pit hf c_3
        have q0 := Option.some.inj hf
        obtain ⟨e0, q1⟩ := Prod.mk.inj q0
        obtain ⟨e1, q2⟩ := Prod.mk.inj q1
        obtain ⟨e2, q3⟩ := Prod.mk.inj q2
        obtain ⟨e3, q4⟩ := Prod.mk.inj q3
        subst e0
        subst e1
        subst e2
        subst e3
        subst q4
        exact kx _ _ _ hP hD hS (lv_sub hl [2] rfl)
      · have hf := pif hf c_3
        refine lv_iload_n hx hb dX5_go_58 rfl (lv_at hl 2 rfl) ?_
        refine lv_aload_n hx hb dX5_go_59 rfl (lv_at hl 0 rfl) ?_
        obtain ⟨r_4, o_s_5, o_makes_6, o_works_7, hc, hf⟩ := pb4 hf
        refine gCi (va_runV (As := []) (rest := [.int l2]) hF (kX5_goesBy l dC dI Z cC cI cZ cW a_o a_o_text a_o_need a_o_made a_o_skillTold a_o_placeTold a_o_skips a_o_wheelTold a_o_tunes a_o_s a_o_spare a_o_kept a_o_isKept a_o_makes a_o_works a_o_order _ o_thrown o_trace o_typed o_next o_token o_place o_value o_fault o_trades o_people o_draftTrades o_draftPeople o_isShut o_falling o_need o_made o_skips o_tunes o_s o_makes o_works  N r_4 o_s_5 o_makes_6 o_works_7 hc) (cwV 0 hts gX5_go_X5_goesBy rfl rfl rfl (by decide +kernel) ⟨Nat.le_of_ble_eq_true rfl, Nat.le_of_ble_eq_true rfl⟩) (gPV (wc := [(a_o, .inr (5, [.int o_thrown, .long o_trace, .ref a_o_text, .int o_typed, .int o_next, .int o_token, .int o_place, .int o_value, .int o_fault, .ref a_o_need, .ref a_o_made, .ref a_o_skillTold, .ref a_o_placeTold, .ref a_o_skips, .ref a_o_wheelTold, .int o_trades, .int o_people, .int o_draftTrades, .int o_draftPeople, .int o_isShut, .ref a_o_tunes, .ref a_o_s, .ref a_o_spare, .ref a_o_kept, .ref a_o_isKept, .ref a_o_makes, .ref a_o_works, .ref a_o_order, .int o_falling])), (a_o_need, .inl (cI, 12, .inl o_need)), (a_o_made, .inl (cI, 12, .inl o_made)), (a_o_skips, .inl (cI, 12, .inl o_skips)), (a_o_tunes, .inl (cI, 3, .inl o_tunes)), (a_o_s, .inl (cI, 105, .inl o_s)), (a_o_makes, .inl (cI, 6, .inl o_makes)), (a_o_works, .inl (cI, 6, .inl o_works))]) hK hN hA hS hP hD [0, 1, 2, 3, 4, 5, 6, 7] rfl rfl (q0 := 0) (ci := 5) rfl rfl rfl) rfl rfl hl.1 rfl (lv_room (Nat.le_of_ble_eq_true rfl)) dX5_go_60 ⟨Nat.zero_le _, Nat.zero_le _⟩) hP hD hS hA [0, 1, 2, 3, 4, 5, 6, 7] rfl rfl rfl (fun H locs hP hD hS => ?_)
        have hP : va_P (dC, dI) vwCl [(a_o, .inr (5, [.int o_thrown, .long o_trace, .ref a_o_text, .int o_typed, .int o_next, .int o_token, .int o_place, .int o_value, .int o_fault, .ref a_o_need, .ref a_o_made, .ref a_o_skillTold, .ref a_o_placeTold, .ref a_o_skips, .ref a_o_wheelTold, .int o_trades, .int o_people, .int o_draftTrades, .int o_draftPeople, .int o_isShut, .ref a_o_tunes, .ref a_o_s, .ref a_o_spare, .ref a_o_kept, .ref a_o_isKept, .ref a_o_makes, .ref a_o_works, .ref a_o_order, .int o_falling])), (a_o_need, .inl (cI, 12, .inl o_need)), (a_o_made, .inl (cI, 12, .inl o_made)), (a_o_skips, .inl (cI, 12, .inl o_skips)), (a_o_tunes, .inl (cI, 3, .inl o_tunes)), (a_o_s, .inl (cI, 105, .inl o_s_5)), (a_o_makes, .inl (cI, 6, .inl o_makes_6)), (a_o_works, .inl (cI, 6, .inl o_works_7))] H := hP
        have hD : va_D A [(a_o, .inr (5, [.int o_thrown, .long o_trace, .ref a_o_text, .int o_typed, .int o_next, .int o_token, .int o_place, .int o_value, .int o_fault, .ref a_o_need, .ref a_o_made, .ref a_o_skillTold, .ref a_o_placeTold, .ref a_o_skips, .ref a_o_wheelTold, .int o_trades, .int o_people, .int o_draftTrades, .int o_draftPeople, .int o_isShut, .ref a_o_tunes, .ref a_o_s, .ref a_o_spare, .ref a_o_kept, .ref a_o_isKept, .ref a_o_makes, .ref a_o_works, .ref a_o_order, .int o_falling])), (a_o_need, .inl (cI, 12, .inl o_need)), (a_o_made, .inl (cI, 12, .inl o_made)), (a_o_skips, .inl (cI, 12, .inl o_skips)), (a_o_tunes, .inl (cI, 3, .inl o_tunes)), (a_o_s, .inl (cI, 105, .inl o_s_5)), (a_o_makes, .inl (cI, 6, .inl o_makes_6)), (a_o_works, .inl (cI, 6, .inl o_works_7))] := hD
        refine lv_iadd hx hb dX5_go_63 ?_
        refine lv_istore_n (lv' := [(2, .int (l2 + r_4)), (0, .ref a_o), (1, .int l1), (3, .int l3)]) hx hb dX5_go_64 rfl hl (by decide) rfl (fun ls hl => ?_)
        refine lv_iinc (v := (l3 + 1)) (lv' := [(3, .int (l3 + 1)), (2, .int (l2 + r_4)), (0, .ref a_o), (1, .int l1)]) hx hb dX5_go_65 hl (k := 3) rfl rfl (by decide) rfl (fun ls hl => ?_)
        refine lv_goto (tgt := 42) hx hb dX5_go_68 (by decide) ?_
        exact ih _ _ _ _ _ _ _ _ _ _ hf _ _ _ hP hD hS (lv_sub hl [2, 3, 1, 0] rfl) kx
set_option maxHeartbeats 4000000 in
set_option maxRecDepth 100000 in
theorem kX5_go (l : Launch) (dC : Nat → ClassId) (dI : Nat → Nat → Nat) (Z : gZ) (cC cI cZ cW : ClassId) (a_o a_o_text a_o_need a_o_made a_o_skillTold a_o_placeTold a_o_skips a_o_wheelTold a_o_tunes a_o_s a_o_spare a_o_kept a_o_isKept a_o_makes a_o_works a_o_order : Nat) (sz : Nat) (o_thrown : Int32) (o_trace : Int64) (o_typed : Int32) (o_next : Int32) (o_token : Int32) (o_place : Int32) (o_value : Int32) (o_fault : Int32) (o_trades : Int32) (o_people : Int32) (o_draftTrades : Int32) (o_draftPeople : Int32) (o_isShut : Int32) (o_falling : Int32) (o_need : Nat → Int32) (o_made : Nat → Int32) (o_skips : Nat → Int32) (o_tunes : Nat → Int32) (o_s : Nat → Int32) (o_makes : Nat → Int32) (o_works : Nat → Int32) (i1 : Int32) (N : Nat) (r' : Int32) (o_thrown' : Int32) (o_s' : Nat → Int32) (o_makes' : Nat → Int32) (o_works' : Nat → Int32) (hf : fX5_go N o_thrown o_trades o_people o_need o_made o_skips o_tunes o_s o_makes o_works  i1 = some (r', o_thrown', o_s', o_makes', o_works')) : Met l yX5_go wsX5_go rmX5_go (va_Pc [.ref a_o, .int i1] (gB (dC, dI) Z [(cC, .char), (cI, .int), (cZ, .boolean), (cW, .object RX3)] [(a_o, .inr (5, [.int o_thrown, .long o_trace, .ref a_o_text, .int o_typed, .int o_next, .int o_token, .int o_place, .int o_value, .int o_fault, .ref a_o_need, .ref a_o_made, .ref a_o_skillTold, .ref a_o_placeTold, .ref a_o_skips, .ref a_o_wheelTold, .int o_trades, .int o_people, .int o_draftTrades, .int o_draftPeople, .int o_isShut, .ref a_o_tunes, .ref a_o_s, .ref a_o_spare, .ref a_o_kept, .ref a_o_isKept, .ref a_o_makes, .ref a_o_works, .ref a_o_order, .int o_falling])), (a_o_need, .inl (cI, 12, .inl o_need)), (a_o_made, .inl (cI, 12, .inl o_made)), (a_o_skips, .inl (cI, 12, .inl o_skips)), (a_o_tunes, .inl (cI, 3, .inl o_tunes)), (a_o_s, .inl (cI, 105, .inl o_s)), (a_o_makes, .inl (cI, 6, .inl o_makes)), (a_o_works, .inl (cI, 6, .inl o_works))] sz)) (va_Qi (fun (r : Int32) (_ : Unit) => r = r') (gE (dC, dI) [(a_o, .inr (5, [.int o_thrown', .long o_trace, .ref a_o_text, .int o_typed, .int o_next, .int o_token, .int o_place, .int o_value, .int o_fault, .ref a_o_need, .ref a_o_made, .ref a_o_skillTold, .ref a_o_placeTold, .ref a_o_skips, .ref a_o_wheelTold, .int o_trades, .int o_people, .int o_draftTrades, .int o_draftPeople, .int o_isShut, .ref a_o_tunes, .ref a_o_s, .ref a_o_spare, .ref a_o_kept, .ref a_o_isKept, .ref a_o_makes, .ref a_o_works, .ref a_o_order, .int o_falling])), (a_o_need, .inl (cI, 12, .inl o_need)), (a_o_made, .inl (cI, 12, .inl o_made)), (a_o_skips, .inl (cI, 12, .inl o_skips)), (a_o_tunes, .inl (cI, 3, .inl o_tunes)), (a_o_s, .inl (cI, 105, .inl o_s')), (a_o_makes, .inl (cI, 6, .inl o_makes')), (a_o_works, .inl (cI, 6, .inl o_works'))]) (va_A [(a_o, .inr (5, [.int o_thrown, .long o_trace, .ref a_o_text, .int o_typed, .int o_next, .int o_token, .int o_place, .int o_value, .int o_fault, .ref a_o_need, .ref a_o_made, .ref a_o_skillTold, .ref a_o_placeTold, .ref a_o_skips, .ref a_o_wheelTold, .int o_trades, .int o_people, .int o_draftTrades, .int o_draftPeople, .int o_isShut, .ref a_o_tunes, .ref a_o_s, .ref a_o_spare, .ref a_o_kept, .ref a_o_isKept, .ref a_o_makes, .ref a_o_works, .ref a_o_order, .int o_falling])), (a_o_need, .inl (cI, 12, .inl o_need)), (a_o_made, .inl (cI, 12, .inl o_made)), (a_o_skips, .inl (cI, 12, .inl o_skips)), (a_o_tunes, .inl (cI, 3, .inl o_tunes)), (a_o_s, .inl (cI, 105, .inl o_s)), (a_o_makes, .inl (cI, 6, .inl o_makes)), (a_o_works, .inl (cI, 6, .inl o_works))] sz)) 0 0 (va_A [(a_o, .inr (5, [.int o_thrown, .long o_trace, .ref a_o_text, .int o_typed, .int o_next, .int o_token, .int o_place, .int o_value, .int o_fault, .ref a_o_need, .ref a_o_made, .ref a_o_skillTold, .ref a_o_placeTold, .ref a_o_skips, .ref a_o_wheelTold, .int o_trades, .int o_people, .int o_draftTrades, .int o_draftPeople, .int o_isShut, .ref a_o_tunes, .ref a_o_s, .ref a_o_spare, .ref a_o_kept, .ref a_o_isKept, .ref a_o_makes, .ref a_o_works, .ref a_o_order, .int o_falling])), (a_o_need, .inl (cI, 12, .inl o_need)), (a_o_made, .inl (cI, 12, .inl o_made)), (a_o_skips, .inl (cI, 12, .inl o_skips)), (a_o_tunes, .inl (cI, 3, .inl o_tunes)), (a_o_s, .inl (cI, 105, .inl o_s)), (a_o_makes, .inl (cI, 6, .inl o_makes)), (a_o_works, .inl (cI, 6, .inl o_works))] sz) := by
  refine gMet (cc := cX5_go) (maxL := 4) (ret := (some .int)) (Qc := fun A => va_Qi (fun (r : Int32) (_ : Unit) => r = r') (gE (dC, dI) [(a_o, .inr (5, [.int o_thrown', .long o_trace, .ref a_o_text, .int o_typed, .int o_next, .int o_token, .int o_place, .int o_value, .int o_fault, .ref a_o_need, .ref a_o_made, .ref a_o_skillTold, .ref a_o_placeTold, .ref a_o_skips, .ref a_o_wheelTold, .int o_trades, .int o_people, .int o_draftTrades, .int o_draftPeople, .int o_isShut, .ref a_o_tunes, .ref a_o_s, .ref a_o_spare, .ref a_o_kept, .ref a_o_isKept, .ref a_o_makes, .ref a_o_works, .ref a_o_order, .int o_falling])), (a_o_need, .inl (cI, 12, .inl o_need)), (a_o_made, .inl (cI, 12, .inl o_made)), (a_o_skips, .inl (cI, 12, .inl o_skips)), (a_o_tunes, .inl (cI, 3, .inl o_tunes)), (a_o_s, .inl (cI, 105, .inl o_s')), (a_o_makes, .inl (cI, 6, .inl o_makes')), (a_o_works, .inl (cI, 6, .inl o_works'))]) A) (by decide) rfl (Nat.le_of_ble_eq_true rfl) ?_
  intro p e s m below meth c A ls hg0 _ hsz hP hD hS hl
  have hg0 : gX p s m _ meth c cX5_go 4 (some .int) wsX5_go RX5 (dC, dI) Z [(cC, .char), (cI, .int), (cZ, .boolean), (cW, .object RX3)] A := hg0
  obtain ⟨hx, hb, hr, hml, hown, hts, hlocks, hA, hK, hN⟩ := id hg0
  subst hsz
  have hF : CallFix p m c cX5_go 4 s _ wsX5_go RX5 := ⟨hx, hb, hml, hown, hts⟩
  have hl : lv_has ls 4 [(0, .ref a_o), (1, .int i1)] := hl
  unfold fX5_go at hf
  refine lv_aload_n hx hb dX5_go_0 rfl (lv_at hl 0 rfl) ?_
  refine lv_iconst (v := (0 : Int32)) hx hb dX5_go_1 (by decide) ?_
  refine va_put (D := (dC, dI)) (ci := 5) (v := .int (0 : Int32)) (ty := .int) (C := RX5) (T := TX5) (N := 29) hx hb hts uX5_go_X5 tyX5 tyX5_ok nmX5 hown hK hP hD hS 0 rfl rfl 0 (by decide) (hts _ mX5_go_0) (fun _ h9 => h9) rfl (by decide +kernel) rfl rfl (Nat.le_of_ble_eq_true rfl) dX5_go_2 (fun H locs hP hD hS => ?_)
  have hP : va_P (dC, dI) vwCl [(a_o, .inr (5, [.int (0 : Int32), .long o_trace, .ref a_o_text, .int o_typed, .int o_next, .int o_token, .int o_place, .int o_value, .int o_fault, .ref a_o_need, .ref a_o_made, .ref a_o_skillTold, .ref a_o_placeTold, .ref a_o_skips, .ref a_o_wheelTold, .int o_trades, .int o_people, .int o_draftTrades, .int o_draftPeople, .int o_isShut, .ref a_o_tunes, .ref a_o_s, .ref a_o_spare, .ref a_o_kept, .ref a_o_isKept, .ref a_o_makes, .ref a_o_works, .ref a_o_order, .int o_falling])), (a_o_need, .inl (cI, 12, .inl o_need)), (a_o_made, .inl (cI, 12, .inl o_made)), (a_o_skips, .inl (cI, 12, .inl o_skips)), (a_o_tunes, .inl (cI, 3, .inl o_tunes)), (a_o_s, .inl (cI, 105, .inl o_s)), (a_o_makes, .inl (cI, 6, .inl o_makes)), (a_o_works, .inl (cI, 6, .inl o_works))] H := hP
  have hD : va_D A [(a_o, .inr (5, [.int (0 : Int32), .long o_trace, .ref a_o_text, .int o_typed, .int o_next, .int o_token, .int o_place, .int o_value, .int o_fault, .ref a_o_need, .ref a_o_made, .ref a_o_skillTold, .ref a_o_placeTold, .ref a_o_skips, .ref a_o_wheelTold, .int o_trades, .int o_people, .int o_draftTrades, .int o_draftPeople, .int o_isShut, .ref a_o_tunes, .ref a_o_s, .ref a_o_spare, .ref a_o_kept, .ref a_o_isKept, .ref a_o_makes, .ref a_o_works, .ref a_o_order, .int o_falling])), (a_o_need, .inl (cI, 12, .inl o_need)), (a_o_made, .inl (cI, 12, .inl o_made)), (a_o_skips, .inl (cI, 12, .inl o_skips)), (a_o_tunes, .inl (cI, 3, .inl o_tunes)), (a_o_s, .inl (cI, 105, .inl o_s)), (a_o_makes, .inl (cI, 6, .inl o_makes)), (a_o_works, .inl (cI, 6, .inl o_works))] := hD
  refine lv_iload_n hx hb dX5_go_5 rfl (lv_at hl 1 rfl) ?_
  refine lv_iconst (v := (1 : Int32)) hx hb dX5_go_6 (by decide) ?_
  refine lv_bipush (v := (99 : Int32)) hx hb dX5_go_7 (by decide) ?_
  obtain ⟨r_1, hc, hf⟩ := pb1 hf
  refine gCi (va_runS (As := [.int i1, .int (1 : Int32), .int (99 : Int32)]) (rest := []) hF (kX5_in l dC dI Z cC cI cZ cW  _  i1 (1 : Int32) (99 : Int32) N r_1 hc) (cwS 3 hts gX5_go_X5_in rfl rfl rfl (by decide +kernel) ⟨Nat.le_of_ble_eq_true rfl, Nat.le_of_ble_eq_true rfl⟩) (gPS (wc := []) hK hN hA hS hP hD [] rfl rfl) rfl rfl hl.1 rfl (lv_room (Nat.le_of_ble_eq_true rfl)) dX5_go_9 ⟨Nat.zero_le _, Nat.zero_le _⟩) hP hD hS hA [] rfl rfl rfl (fun H locs hP hD hS => ?_)
  have hP : va_P (dC, dI) vwCl [(a_o, .inr (5, [.int (0 : Int32), .long o_trace, .ref a_o_text, .int o_typed, .int o_next, .int o_token, .int o_place, .int o_value, .int o_fault, .ref a_o_need, .ref a_o_made, .ref a_o_skillTold, .ref a_o_placeTold, .ref a_o_skips, .ref a_o_wheelTold, .int o_trades, .int o_people, .int o_draftTrades, .int o_draftPeople, .int o_isShut, .ref a_o_tunes, .ref a_o_s, .ref a_o_spare, .ref a_o_kept, .ref a_o_isKept, .ref a_o_makes, .ref a_o_works, .ref a_o_order, .int o_falling])), (a_o_need, .inl (cI, 12, .inl o_need)), (a_o_made, .inl (cI, 12, .inl o_made)), (a_o_skips, .inl (cI, 12, .inl o_skips)), (a_o_tunes, .inl (cI, 3, .inl o_tunes)), (a_o_s, .inl (cI, 105, .inl o_s)), (a_o_makes, .inl (cI, 6, .inl o_makes)), (a_o_works, .inl (cI, 6, .inl o_works))] H := hP
  have hD : va_D A [(a_o, .inr (5, [.int (0 : Int32), .long o_trace, .ref a_o_text, .int o_typed, .int o_next, .int o_token, .int o_place, .int o_value, .int o_fault, .ref a_o_need, .ref a_o_made, .ref a_o_skillTold, .ref a_o_placeTold, .ref a_o_skips, .ref a_o_wheelTold, .int o_trades, .int o_people, .int o_draftTrades, .int o_draftPeople, .int o_isShut, .ref a_o_tunes, .ref a_o_s, .ref a_o_spare, .ref a_o_kept, .ref a_o_isKept, .ref a_o_makes, .ref a_o_works, .ref a_o_order, .int o_falling])), (a_o_need, .inl (cI, 12, .inl o_need)), (a_o_made, .inl (cI, 12, .inl o_made)), (a_o_skips, .inl (cI, 12, .inl o_skips)), (a_o_tunes, .inl (cI, 3, .inl o_tunes)), (a_o_s, .inl (cI, 105, .inl o_s)), (a_o_makes, .inl (cI, 6, .inl o_makes)), (a_o_works, .inl (cI, 6, .inl o_works))] := hD
  refine lv_if_ne (tgt := 17) hx hb dX5_go_12 (by decide) (fun c_2 => ?_) (fun c_2 => ?_)
  · have hf := pif hf c_2
    refine lv_aload_n hx hb dX5_go_17 rfl (lv_at hl 0 rfl) ?_
    refine va_get (D := (dC, dI)) (ci := 5) (v := .ref a_o_s) (C := RX5) (T := TX5) (N := 29) hx hb hts uX5_go_X5 hown hK hP 0 rfl rfl 21 (by decide) (hts _ mX5_go_1) (fun _ h9 => h9) rfl dX5_go_18 ?_
    refine lv_iconst (v := (0 : Int32)) hx hb dX5_go_21 (by decide) ?_
    obtain ⟨h_3, hf⟩ := pgd hf
    refine va_iald hx hb hK hP 5 1 rfl rfl h_3 dX5_go_22 ?_
    refine lv_bipush (v := (99 : Int32)) hx hb dX5_go_23 (by decide) ?_
    refine lv_icmp_eq (tgt := 35) hx hb dX5_go_25 (by decide) (fun c_4 => ?_) (fun c_4 => ?_)
    · have hf := pit hf c_4
      refine lv_bipush (v := (-2 : Int32)) hx hb dX5_go_35 (by decide) ?_
      have q0 := Option.some.inj hf
      obtain ⟨e0, q1⟩ := Prod.mk.inj q0
      obtain ⟨e1, q2⟩ := Prod.mk.inj q1
      obtain ⟨e2, q3⟩ := Prod.mk.inj q2
      obtain ⟨e3, q4⟩ := Prod.mk.inj q3
      subst e0
      subst e1
      subst e2
      subst e3
      subst q4
      exact gRi hx hb hr hlocks hP hS dX5_go_37
    · have hf := pif hf c_4
      refine lv_aload_n hx hb dX5_go_28 rfl (lv_at hl 0 rfl) ?_
      refine va_get (D := (dC, dI)) (ci := 5) (v := .int o_trades) (C := RX5) (T := TX5) (N := 29) hx hb hts uX5_go_X5 hown hK hP 0 rfl rfl 15 (by decide) (hts _ mX5_go_2) (fun _ h9 => h9) rfl dX5_go_29 ?_
      refine lv_if_ne (tgt := 38) hx hb dX5_go_32 (by decide) (fun c_5 => ?_) (fun c_5 => ?_)
      · have hf := pif hf c_5
        refine lv_iconst (v := (0 : Int32)) hx hb dX5_go_38 (by decide) ?_
        refine lv_istore_n (lv' := [(2, .int (0 : Int32)), (0, .ref a_o), (1, .int i1)]) hx hb dX5_go_39 rfl hl (by decide) rfl (fun ls hl => ?_)
        refine lv_iconst (v := (0 : Int32)) hx hb dX5_go_40 (by decide) ?_
        refine lv_istore_n (lv' := [(3, .int (0 : Int32)), (2, .int (0 : Int32)), (0, .ref a_o), (1, .int i1)]) hx hb dX5_go_41 rfl hl (by decide) rfl (fun ls hl => ?_)
        obtain ⟨o_s_6, o_makes_7, o_works_8, l2_9, l3_10, hc, hf⟩ := pb5 hf
        refine wX5_go_42 hg0 a_o a_o_text a_o_need a_o_made a_o_skillTold a_o_placeTold a_o_skips a_o_wheelTold a_o_tunes a_o_s a_o_spare a_o_kept a_o_isKept a_o_makes a_o_works a_o_order (0 : Int32) o_trace o_typed o_next o_token o_place o_value o_fault o_trades o_people o_draftTrades o_draftPeople o_isShut o_falling o_need o_made o_skips o_tunes i1 N N o_s o_makes o_works (0 : Int32) (0 : Int32) o_s_6 o_makes_7 o_works_8 l2_9 l3_10 hc _ _ _ hP hD hS (lv_sub hl [2, 3, 1, 0] rfl) (fun H locs ls hP hD hS hl => ?_)
        refine lv_iload_n hx hb dX5_go_71 rfl (lv_at hl 0 rfl) ?_
        have q0 := Option.some.inj hf
        obtain ⟨e0, q1⟩ := Prod.mk.inj q0
        obtain ⟨e1, q2⟩ := Prod.mk.inj q1
        obtain ⟨e2, q3⟩ := Prod.mk.inj q2
        obtain ⟨e3, q4⟩ := Prod.mk.inj q3
        subst e0
        subst e1
        subst e2
        subst e3
        subst q4
        exact gRi hx hb hr hlocks hP hS dX5_go_72
      · have hf := pit hf c_5
        refine lv_bipush (v := (-2 : Int32)) hx hb dX5_go_35 (by decide) ?_
        have q0 := Option.some.inj hf
        obtain ⟨e0, q1⟩ := Prod.mk.inj q0
        obtain ⟨e1, q2⟩ := Prod.mk.inj q1
        obtain ⟨e2, q3⟩ := Prod.mk.inj q2
        obtain ⟨e3, q4⟩ := Prod.mk.inj q3
        subst e0
        subst e1
        subst e2
        subst e3
        subst q4
        exact gRi hx hb hr hlocks hP hS dX5_go_37
  · have hf := pit hf c_2
    refine lv_iconst (v := (-1 : Int32)) hx hb dX5_go_15 (by decide) ?_
    have q0 := Option.some.inj hf
    obtain ⟨e0, q1⟩ := Prod.mk.inj q0
    obtain ⟨e1, q2⟩ := Prod.mk.inj q1
    obtain ⟨e2, q3⟩ := Prod.mk.inj q2
    obtain ⟨e3, q4⟩ := Prod.mk.inj q3
    subst e0
    subst e1
    subst e2
    subst e3
    subst q4
    exact gRi hx hb hr hlocks hP hS dX5_go_16
abbrev rmX5_lacking : Room := { frames := 5, cells := 0, slots := 0, locals := 117 }
set_option maxRecDepth 20000 in
theorem uX5_lacking_X5 : ∀ w ∈ wsX50, w ∈ wsX5_lacking := by decide +kernel
set_option maxRecDepth 20000 in
theorem mX5_lacking_0 : (Cond.fieldLink RX5 59 "TradeWheelModel" "thrown" "I" : Cond) ∈ wsX5_lacking := by decide +kernel
set_option maxRecDepth 20000 in
theorem mX5_lacking_1 : (Cond.fieldLink RX5 137 "TradeWheelModel" "trades" "I" : Cond) ∈ wsX5_lacking := by decide +kernel
set_option maxRecDepth 20000 in
theorem mX5_lacking_2 : (Cond.fieldLink RX5 178 "TradeWheelModel" "falling" "I" : Cond) ∈ wsX5_lacking := by decide +kernel
set_option maxHeartbeats 4000000 in
set_option maxRecDepth 100000 in
theorem kX5_lacking (l : Launch) (dC : Nat → ClassId) (dI : Nat → Nat → Nat) (Z : gZ) (cC cI cZ cW : ClassId) (a_o a_o_text a_o_need a_o_made a_o_skillTold a_o_placeTold a_o_skips a_o_wheelTold a_o_tunes a_o_s a_o_spare a_o_kept a_o_isKept a_o_makes a_o_works a_o_order : Nat) (sz : Nat) (o_thrown : Int32) (o_trace : Int64) (o_typed : Int32) (o_next : Int32) (o_token : Int32) (o_place : Int32) (o_value : Int32) (o_fault : Int32) (o_trades : Int32) (o_people : Int32) (o_draftTrades : Int32) (o_draftPeople : Int32) (o_isShut : Int32) (o_falling : Int32) (o_need : Nat → Int32) (o_made : Nat → Int32) (o_skips : Nat → Int32) (o_tunes : Nat → Int32) (o_s : Nat → Int32) (o_spare : Nat → Int32) (o_makes : Nat → Int32) (o_works : Nat → Int32) (i1 : Int32) (i2 : Int32) (N : Nat) (r' : Int32) (o_thrown' : Int32) (o_falling' : Int32) (o_s' : Nat → Int32) (o_spare' : Nat → Int32) (o_makes' : Nat → Int32) (o_works' : Nat → Int32) (hf : fX5_lacking N o_thrown o_trades o_people o_falling o_need o_made o_skips o_tunes o_s o_spare o_makes o_works  i1 i2 = some (r', o_thrown', o_falling', o_s', o_spare', o_makes', o_works')) : Met l yX5_lacking wsX5_lacking rmX5_lacking (va_Pc [.ref a_o, .int i1, .int i2] (gB (dC, dI) Z [(cC, .char), (cI, .int), (cZ, .boolean), (cW, .object RX3)] [(a_o, .inr (5, [.int o_thrown, .long o_trace, .ref a_o_text, .int o_typed, .int o_next, .int o_token, .int o_place, .int o_value, .int o_fault, .ref a_o_need, .ref a_o_made, .ref a_o_skillTold, .ref a_o_placeTold, .ref a_o_skips, .ref a_o_wheelTold, .int o_trades, .int o_people, .int o_draftTrades, .int o_draftPeople, .int o_isShut, .ref a_o_tunes, .ref a_o_s, .ref a_o_spare, .ref a_o_kept, .ref a_o_isKept, .ref a_o_makes, .ref a_o_works, .ref a_o_order, .int o_falling])), (a_o_need, .inl (cI, 12, .inl o_need)), (a_o_made, .inl (cI, 12, .inl o_made)), (a_o_skips, .inl (cI, 12, .inl o_skips)), (a_o_tunes, .inl (cI, 3, .inl o_tunes)), (a_o_s, .inl (cI, 105, .inl o_s)), (a_o_spare, .inl (cI, 105, .inl o_spare)), (a_o_makes, .inl (cI, 6, .inl o_makes)), (a_o_works, .inl (cI, 6, .inl o_works))] sz)) (va_Qi (fun (r : Int32) (_ : Unit) => r = r') (gE (dC, dI) [(a_o, .inr (5, [.int o_thrown', .long o_trace, .ref a_o_text, .int o_typed, .int o_next, .int o_token, .int o_place, .int o_value, .int o_fault, .ref a_o_need, .ref a_o_made, .ref a_o_skillTold, .ref a_o_placeTold, .ref a_o_skips, .ref a_o_wheelTold, .int o_trades, .int o_people, .int o_draftTrades, .int o_draftPeople, .int o_isShut, .ref a_o_tunes, .ref a_o_s, .ref a_o_spare, .ref a_o_kept, .ref a_o_isKept, .ref a_o_makes, .ref a_o_works, .ref a_o_order, .int o_falling'])), (a_o_need, .inl (cI, 12, .inl o_need)), (a_o_made, .inl (cI, 12, .inl o_made)), (a_o_skips, .inl (cI, 12, .inl o_skips)), (a_o_tunes, .inl (cI, 3, .inl o_tunes)), (a_o_s, .inl (cI, 105, .inl o_s')), (a_o_spare, .inl (cI, 105, .inl o_spare')), (a_o_makes, .inl (cI, 6, .inl o_makes')), (a_o_works, .inl (cI, 6, .inl o_works'))]) (va_A [(a_o, .inr (5, [.int o_thrown, .long o_trace, .ref a_o_text, .int o_typed, .int o_next, .int o_token, .int o_place, .int o_value, .int o_fault, .ref a_o_need, .ref a_o_made, .ref a_o_skillTold, .ref a_o_placeTold, .ref a_o_skips, .ref a_o_wheelTold, .int o_trades, .int o_people, .int o_draftTrades, .int o_draftPeople, .int o_isShut, .ref a_o_tunes, .ref a_o_s, .ref a_o_spare, .ref a_o_kept, .ref a_o_isKept, .ref a_o_makes, .ref a_o_works, .ref a_o_order, .int o_falling])), (a_o_need, .inl (cI, 12, .inl o_need)), (a_o_made, .inl (cI, 12, .inl o_made)), (a_o_skips, .inl (cI, 12, .inl o_skips)), (a_o_tunes, .inl (cI, 3, .inl o_tunes)), (a_o_s, .inl (cI, 105, .inl o_s)), (a_o_spare, .inl (cI, 105, .inl o_spare)), (a_o_makes, .inl (cI, 6, .inl o_makes)), (a_o_works, .inl (cI, 6, .inl o_works))] sz)) 0 0 (va_A [(a_o, .inr (5, [.int o_thrown, .long o_trace, .ref a_o_text, .int o_typed, .int o_next, .int o_token, .int o_place, .int o_value, .int o_fault, .ref a_o_need, .ref a_o_made, .ref a_o_skillTold, .ref a_o_placeTold, .ref a_o_skips, .ref a_o_wheelTold, .int o_trades, .int o_people, .int o_draftTrades, .int o_draftPeople, .int o_isShut, .ref a_o_tunes, .ref a_o_s, .ref a_o_spare, .ref a_o_kept, .ref a_o_isKept, .ref a_o_makes, .ref a_o_works, .ref a_o_order, .int o_falling])), (a_o_need, .inl (cI, 12, .inl o_need)), (a_o_made, .inl (cI, 12, .inl o_made)), (a_o_skips, .inl (cI, 12, .inl o_skips)), (a_o_tunes, .inl (cI, 3, .inl o_tunes)), (a_o_s, .inl (cI, 105, .inl o_s)), (a_o_spare, .inl (cI, 105, .inl o_spare)), (a_o_makes, .inl (cI, 6, .inl o_makes)), (a_o_works, .inl (cI, 6, .inl o_works))] sz) := by
  refine gMet (cc := cX5_lacking) (maxL := 4) (ret := (some .int)) (Qc := fun A => va_Qi (fun (r : Int32) (_ : Unit) => r = r') (gE (dC, dI) [(a_o, .inr (5, [.int o_thrown', .long o_trace, .ref a_o_text, .int o_typed, .int o_next, .int o_token, .int o_place, .int o_value, .int o_fault, .ref a_o_need, .ref a_o_made, .ref a_o_skillTold, .ref a_o_placeTold, .ref a_o_skips, .ref a_o_wheelTold, .int o_trades, .int o_people, .int o_draftTrades, .int o_draftPeople, .int o_isShut, .ref a_o_tunes, .ref a_o_s, .ref a_o_spare, .ref a_o_kept, .ref a_o_isKept, .ref a_o_makes, .ref a_o_works, .ref a_o_order, .int o_falling'])), (a_o_need, .inl (cI, 12, .inl o_need)), (a_o_made, .inl (cI, 12, .inl o_made)), (a_o_skips, .inl (cI, 12, .inl o_skips)), (a_o_tunes, .inl (cI, 3, .inl o_tunes)), (a_o_s, .inl (cI, 105, .inl o_s')), (a_o_spare, .inl (cI, 105, .inl o_spare')), (a_o_makes, .inl (cI, 6, .inl o_makes')), (a_o_works, .inl (cI, 6, .inl o_works'))]) A) (by decide) rfl (Nat.le_of_ble_eq_true rfl) ?_
  intro p e s m below meth c A ls hg0 _ hsz hP hD hS hl
  have hg0 : gX p s m _ meth c cX5_lacking 4 (some .int) wsX5_lacking RX5 (dC, dI) Z [(cC, .char), (cI, .int), (cZ, .boolean), (cW, .object RX3)] A := hg0
  obtain ⟨hx, hb, hr, hml, hown, hts, hlocks, hA, hK, hN⟩ := id hg0
  subst hsz
  have hF : CallFix p m c cX5_lacking 4 s _ wsX5_lacking RX5 := ⟨hx, hb, hml, hown, hts⟩
  have hl : lv_has ls 4 [(0, .ref a_o), (1, .int i1), (2, .int i2)] := hl
  unfold fX5_lacking at hf
  refine lv_aload_n hx hb dX5_lacking_0 rfl (lv_at hl 0 rfl) ?_
  refine lv_iconst (v := (0 : Int32)) hx hb dX5_lacking_1 (by decide) ?_
  refine va_put (D := (dC, dI)) (ci := 5) (v := .int (0 : Int32)) (ty := .int) (C := RX5) (T := TX5) (N := 29) hx hb hts uX5_lacking_X5 tyX5 tyX5_ok nmX5 hown hK hP hD hS 0 rfl rfl 0 (by decide) (hts _ mX5_lacking_0) (fun _ h9 => h9) rfl (by decide +kernel) rfl rfl (Nat.le_of_ble_eq_true rfl) dX5_lacking_2 (fun H locs hP hD hS => ?_)
  have hP : va_P (dC, dI) vwCl [(a_o, .inr (5, [.int (0 : Int32), .long o_trace, .ref a_o_text, .int o_typed, .int o_next, .int o_token, .int o_place, .int o_value, .int o_fault, .ref a_o_need, .ref a_o_made, .ref a_o_skillTold, .ref a_o_placeTold, .ref a_o_skips, .ref a_o_wheelTold, .int o_trades, .int o_people, .int o_draftTrades, .int o_draftPeople, .int o_isShut, .ref a_o_tunes, .ref a_o_s, .ref a_o_spare, .ref a_o_kept, .ref a_o_isKept, .ref a_o_makes, .ref a_o_works, .ref a_o_order, .int o_falling])), (a_o_need, .inl (cI, 12, .inl o_need)), (a_o_made, .inl (cI, 12, .inl o_made)), (a_o_skips, .inl (cI, 12, .inl o_skips)), (a_o_tunes, .inl (cI, 3, .inl o_tunes)), (a_o_s, .inl (cI, 105, .inl o_s)), (a_o_spare, .inl (cI, 105, .inl o_spare)), (a_o_makes, .inl (cI, 6, .inl o_makes)), (a_o_works, .inl (cI, 6, .inl o_works))] H := hP
  have hD : va_D A [(a_o, .inr (5, [.int (0 : Int32), .long o_trace, .ref a_o_text, .int o_typed, .int o_next, .int o_token, .int o_place, .int o_value, .int o_fault, .ref a_o_need, .ref a_o_made, .ref a_o_skillTold, .ref a_o_placeTold, .ref a_o_skips, .ref a_o_wheelTold, .int o_trades, .int o_people, .int o_draftTrades, .int o_draftPeople, .int o_isShut, .ref a_o_tunes, .ref a_o_s, .ref a_o_spare, .ref a_o_kept, .ref a_o_isKept, .ref a_o_makes, .ref a_o_works, .ref a_o_order, .int o_falling])), (a_o_need, .inl (cI, 12, .inl o_need)), (a_o_made, .inl (cI, 12, .inl o_made)), (a_o_skips, .inl (cI, 12, .inl o_skips)), (a_o_tunes, .inl (cI, 3, .inl o_tunes)), (a_o_s, .inl (cI, 105, .inl o_s)), (a_o_spare, .inl (cI, 105, .inl o_spare)), (a_o_makes, .inl (cI, 6, .inl o_makes)), (a_o_works, .inl (cI, 6, .inl o_works))] := hD
  refine lv_iload_n hx hb dX5_lacking_5 rfl (lv_at hl 1 rfl) ?_
  obtain ⟨r_1, hc, hf⟩ := pb1 hf
  refine gCi (va_runS (As := [.int i1]) (rest := []) hF (kX5_areRounds l dC dI Z cC cI cZ cW  _  i1 N r_1 hc) (cwS 1 hts gX5_lacking_X5_areRounds rfl rfl rfl (by decide +kernel) ⟨Nat.le_of_ble_eq_true rfl, Nat.le_of_ble_eq_true rfl⟩) (gPS (wc := []) hK hN hA hS hP hD [] rfl rfl) rfl rfl hl.1 rfl (lv_room (Nat.le_of_ble_eq_true rfl)) dX5_lacking_6 ⟨Nat.zero_le _, Nat.zero_le _⟩) hP hD hS hA [] rfl rfl rfl (fun H locs hP hD hS => ?_)
  have hP : va_P (dC, dI) vwCl [(a_o, .inr (5, [.int (0 : Int32), .long o_trace, .ref a_o_text, .int o_typed, .int o_next, .int o_token, .int o_place, .int o_value, .int o_fault, .ref a_o_need, .ref a_o_made, .ref a_o_skillTold, .ref a_o_placeTold, .ref a_o_skips, .ref a_o_wheelTold, .int o_trades, .int o_people, .int o_draftTrades, .int o_draftPeople, .int o_isShut, .ref a_o_tunes, .ref a_o_s, .ref a_o_spare, .ref a_o_kept, .ref a_o_isKept, .ref a_o_makes, .ref a_o_works, .ref a_o_order, .int o_falling])), (a_o_need, .inl (cI, 12, .inl o_need)), (a_o_made, .inl (cI, 12, .inl o_made)), (a_o_skips, .inl (cI, 12, .inl o_skips)), (a_o_tunes, .inl (cI, 3, .inl o_tunes)), (a_o_s, .inl (cI, 105, .inl o_s)), (a_o_spare, .inl (cI, 105, .inl o_spare)), (a_o_makes, .inl (cI, 6, .inl o_makes)), (a_o_works, .inl (cI, 6, .inl o_works))] H := hP
  have hD : va_D A [(a_o, .inr (5, [.int (0 : Int32), .long o_trace, .ref a_o_text, .int o_typed, .int o_next, .int o_token, .int o_place, .int o_value, .int o_fault, .ref a_o_need, .ref a_o_made, .ref a_o_skillTold, .ref a_o_placeTold, .ref a_o_skips, .ref a_o_wheelTold, .int o_trades, .int o_people, .int o_draftTrades, .int o_draftPeople, .int o_isShut, .ref a_o_tunes, .ref a_o_s, .ref a_o_spare, .ref a_o_kept, .ref a_o_isKept, .ref a_o_makes, .ref a_o_works, .ref a_o_order, .int o_falling])), (a_o_need, .inl (cI, 12, .inl o_need)), (a_o_made, .inl (cI, 12, .inl o_made)), (a_o_skips, .inl (cI, 12, .inl o_skips)), (a_o_tunes, .inl (cI, 3, .inl o_tunes)), (a_o_s, .inl (cI, 105, .inl o_s)), (a_o_spare, .inl (cI, 105, .inl o_spare)), (a_o_makes, .inl (cI, 6, .inl o_makes)), (a_o_works, .inl (cI, 6, .inl o_works))] := hD
  refine lv_if_eq (tgt := 21) hx hb dX5_lacking_9 (by decide) (fun c_2 => ?_) (fun c_2 => ?_)
  · have hf := pit hf c_2
    refine lv_iconst (v := (-1 : Int32)) hx hb dX5_lacking_21 (by decide) ?_
    have q0 := Option.some.inj hf
    obtain ⟨e0, q1⟩ := Prod.mk.inj q0
    obtain ⟨e1, q2⟩ := Prod.mk.inj q1
    obtain ⟨e2, q3⟩ := Prod.mk.inj q2
    obtain ⟨e3, q4⟩ := Prod.mk.inj q3
    obtain ⟨e4, q5⟩ := Prod.mk.inj q4
    obtain ⟨e5, q6⟩ := Prod.mk.inj q5
    subst e0
    subst e1
    subst e2
    subst e3
    subst e4
    subst e5
    subst q6
    exact gRi hx hb hr hlocks hP hS dX5_lacking_22
  · have hf := pif hf c_2
    refine lv_iload_n hx hb dX5_lacking_12 rfl (lv_at hl 2 rfl) ?_
    refine lv_iconst (v := (0 : Int32)) hx hb dX5_lacking_13 (by decide) ?_
    refine lv_iconst (v := (1 : Int32)) hx hb dX5_lacking_14 (by decide) ?_
    obtain ⟨r_3, hc, hf⟩ := pb1 hf
    refine gCi (va_runS (As := [.int i2, .int (0 : Int32), .int (1 : Int32)]) (rest := []) hF (kX5_in l dC dI Z cC cI cZ cW  _  i2 (0 : Int32) (1 : Int32) N r_3 hc) (cwS 3 hts gX5_lacking_X5_in rfl rfl rfl (by decide +kernel) ⟨Nat.le_of_ble_eq_true rfl, Nat.le_of_ble_eq_true rfl⟩) (gPS (wc := []) hK hN hA hS hP hD [] rfl rfl) rfl rfl hl.1 rfl (lv_room (Nat.le_of_ble_eq_true rfl)) dX5_lacking_15 ⟨Nat.zero_le _, Nat.zero_le _⟩) hP hD hS hA [] rfl rfl rfl (fun H locs hP hD hS => ?_)
    have hP : va_P (dC, dI) vwCl [(a_o, .inr (5, [.int (0 : Int32), .long o_trace, .ref a_o_text, .int o_typed, .int o_next, .int o_token, .int o_place, .int o_value, .int o_fault, .ref a_o_need, .ref a_o_made, .ref a_o_skillTold, .ref a_o_placeTold, .ref a_o_skips, .ref a_o_wheelTold, .int o_trades, .int o_people, .int o_draftTrades, .int o_draftPeople, .int o_isShut, .ref a_o_tunes, .ref a_o_s, .ref a_o_spare, .ref a_o_kept, .ref a_o_isKept, .ref a_o_makes, .ref a_o_works, .ref a_o_order, .int o_falling])), (a_o_need, .inl (cI, 12, .inl o_need)), (a_o_made, .inl (cI, 12, .inl o_made)), (a_o_skips, .inl (cI, 12, .inl o_skips)), (a_o_tunes, .inl (cI, 3, .inl o_tunes)), (a_o_s, .inl (cI, 105, .inl o_s)), (a_o_spare, .inl (cI, 105, .inl o_spare)), (a_o_makes, .inl (cI, 6, .inl o_makes)), (a_o_works, .inl (cI, 6, .inl o_works))] H := hP
    have hD : va_D A [(a_o, .inr (5, [.int (0 : Int32), .long o_trace, .ref a_o_text, .int o_typed, .int o_next, .int o_token, .int o_place, .int o_value, .int o_fault, .ref a_o_need, .ref a_o_made, .ref a_o_skillTold, .ref a_o_placeTold, .ref a_o_skips, .ref a_o_wheelTold, .int o_trades, .int o_people, .int o_draftTrades, .int o_draftPeople, .int o_isShut, .ref a_o_tunes, .ref a_o_s, .ref a_o_spare, .ref a_o_kept, .ref a_o_isKept, .ref a_o_makes, .ref a_o_works, .ref a_o_order, .int o_falling])), (a_o_need, .inl (cI, 12, .inl o_need)), (a_o_made, .inl (cI, 12, .inl o_made)), (a_o_skips, .inl (cI, 12, .inl o_skips)), (a_o_tunes, .inl (cI, 3, .inl o_tunes)), (a_o_s, .inl (cI, 105, .inl o_s)), (a_o_spare, .inl (cI, 105, .inl o_spare)), (a_o_makes, .inl (cI, 6, .inl o_makes)), (a_o_works, .inl (cI, 6, .inl o_works))] := hD
    refine lv_if_ne (tgt := 23) hx hb dX5_lacking_18 (by decide) (fun c_4 => ?_) (fun c_4 => ?_)
    · have hf := pif hf c_4
      refine lv_aload_n hx hb dX5_lacking_23 rfl (lv_at hl 0 rfl) ?_
      refine va_get (D := (dC, dI)) (ci := 5) (v := .int o_trades) (C := RX5) (T := TX5) (N := 29) hx hb hts uX5_lacking_X5 hown hK hP 0 rfl rfl 15 (by decide) (hts _ mX5_lacking_1) (fun _ h9 => h9) rfl dX5_lacking_24 ?_
      refine lv_if_ne (tgt := 33) hx hb dX5_lacking_27 (by decide) (fun c_5 => ?_) (fun c_5 => ?_)
      · have hf := pif hf c_5
        refine lv_aload_n hx hb dX5_lacking_33 rfl (lv_at hl 0 rfl) ?_
        refine lv_iconst (v := (1 : Int32)) hx hb dX5_lacking_34 (by decide) ?_
        obtain ⟨o_s_6, o_spare_7, hc, hf⟩ := pb2 hf
        refine gCv (va_runV (As := [.int (1 : Int32)]) (rest := []) hF (kX5_aside l dC dI Z cC cI cZ cW a_o a_o_text a_o_need a_o_made a_o_skillTold a_o_placeTold a_o_skips a_o_wheelTold a_o_tunes a_o_s a_o_spare a_o_kept a_o_isKept a_o_makes a_o_works a_o_order _ (0 : Int32) o_trace o_typed o_next o_token o_place o_value o_fault o_trades o_people o_draftTrades o_draftPeople o_isShut o_falling o_s o_spare (1 : Int32) N o_s_6 o_spare_7 hc) (cwV 1 hts gX5_lacking_X5_aside rfl rfl rfl (by decide +kernel) ⟨Nat.le_of_ble_eq_true rfl, Nat.le_of_ble_eq_true rfl⟩) (gPV (wc := [(a_o, .inr (5, [.int (0 : Int32), .long o_trace, .ref a_o_text, .int o_typed, .int o_next, .int o_token, .int o_place, .int o_value, .int o_fault, .ref a_o_need, .ref a_o_made, .ref a_o_skillTold, .ref a_o_placeTold, .ref a_o_skips, .ref a_o_wheelTold, .int o_trades, .int o_people, .int o_draftTrades, .int o_draftPeople, .int o_isShut, .ref a_o_tunes, .ref a_o_s, .ref a_o_spare, .ref a_o_kept, .ref a_o_isKept, .ref a_o_makes, .ref a_o_works, .ref a_o_order, .int o_falling])), (a_o_s, .inl (cI, 105, .inl o_s)), (a_o_spare, .inl (cI, 105, .inl o_spare))]) hK hN hA hS hP hD [0, 5, 6] rfl rfl (q0 := 0) (ci := 5) rfl rfl rfl) rfl rfl hl.1 rfl (lv_room (Nat.le_of_ble_eq_true rfl)) dX5_lacking_35 ⟨Nat.zero_le _, Nat.zero_le _⟩) hP hD hS hA [0, 5, 6] rfl rfl rfl (fun H locs hP hD hS => ?_)
        have hP : va_P (dC, dI) vwCl [(a_o, .inr (5, [.int (0 : Int32), .long o_trace, .ref a_o_text, .int o_typed, .int o_next, .int o_token, .int o_place, .int o_value, .int o_fault, .ref a_o_need, .ref a_o_made, .ref a_o_skillTold, .ref a_o_placeTold, .ref a_o_skips, .ref a_o_wheelTold, .int o_trades, .int o_people, .int o_draftTrades, .int o_draftPeople, .int o_isShut, .ref a_o_tunes, .ref a_o_s, .ref a_o_spare, .ref a_o_kept, .ref a_o_isKept, .ref a_o_makes, .ref a_o_works, .ref a_o_order, .int o_falling])), (a_o_need, .inl (cI, 12, .inl o_need)), (a_o_made, .inl (cI, 12, .inl o_made)), (a_o_skips, .inl (cI, 12, .inl o_skips)), (a_o_tunes, .inl (cI, 3, .inl o_tunes)), (a_o_s, .inl (cI, 105, .inl o_s_6)), (a_o_spare, .inl (cI, 105, .inl o_spare_7)), (a_o_makes, .inl (cI, 6, .inl o_makes)), (a_o_works, .inl (cI, 6, .inl o_works))] H := hP
        have hD : va_D A [(a_o, .inr (5, [.int (0 : Int32), .long o_trace, .ref a_o_text, .int o_typed, .int o_next, .int o_token, .int o_place, .int o_value, .int o_fault, .ref a_o_need, .ref a_o_made, .ref a_o_skillTold, .ref a_o_placeTold, .ref a_o_skips, .ref a_o_wheelTold, .int o_trades, .int o_people, .int o_draftTrades, .int o_draftPeople, .int o_isShut, .ref a_o_tunes, .ref a_o_s, .ref a_o_spare, .ref a_o_kept, .ref a_o_isKept, .ref a_o_makes, .ref a_o_works, .ref a_o_order, .int o_falling])), (a_o_need, .inl (cI, 12, .inl o_need)), (a_o_made, .inl (cI, 12, .inl o_made)), (a_o_skips, .inl (cI, 12, .inl o_skips)), (a_o_tunes, .inl (cI, 3, .inl o_tunes)), (a_o_s, .inl (cI, 105, .inl o_s_6)), (a_o_spare, .inl (cI, 105, .inl o_spare_7)), (a_o_makes, .inl (cI, 6, .inl o_makes)), (a_o_works, .inl (cI, 6, .inl o_works))] := hD
        refine lv_aload_n hx hb dX5_lacking_38 rfl (lv_at hl 0 rfl) ?_
        refine lv_iload_n hx hb dX5_lacking_39 rfl (lv_at hl 1 rfl) ?_
        obtain ⟨r_8, o_falling_9, o_s_10, o_makes_11, o_works_12, hc, hf⟩ := pb5 hf
        refine gCi (va_runV (As := [.int i1]) (rest := []) hF (kX5_lacksIn l dC dI Z cC cI cZ cW a_o a_o_text a_o_need a_o_made a_o_skillTold a_o_placeTold a_o_skips a_o_wheelTold a_o_tunes a_o_s a_o_spare a_o_kept a_o_isKept a_o_makes a_o_works a_o_order _ (0 : Int32) o_trace o_typed o_next o_token o_place o_value o_fault o_trades o_people o_draftTrades o_draftPeople o_isShut o_falling o_need o_made o_skips o_tunes o_s_6 o_makes o_works i1 N r_8 o_falling_9 o_s_10 o_makes_11 o_works_12 hc) (cwV 1 hts gX5_lacking_X5_lacksIn rfl rfl rfl (by decide +kernel) ⟨Nat.le_of_ble_eq_true rfl, Nat.le_of_ble_eq_true rfl⟩) (gPV (wc := [(a_o, .inr (5, [.int (0 : Int32), .long o_trace, .ref a_o_text, .int o_typed, .int o_next, .int o_token, .int o_place, .int o_value, .int o_fault, .ref a_o_need, .ref a_o_made, .ref a_o_skillTold, .ref a_o_placeTold, .ref a_o_skips, .ref a_o_wheelTold, .int o_trades, .int o_people, .int o_draftTrades, .int o_draftPeople, .int o_isShut, .ref a_o_tunes, .ref a_o_s, .ref a_o_spare, .ref a_o_kept, .ref a_o_isKept, .ref a_o_makes, .ref a_o_works, .ref a_o_order, .int o_falling])), (a_o_need, .inl (cI, 12, .inl o_need)), (a_o_made, .inl (cI, 12, .inl o_made)), (a_o_skips, .inl (cI, 12, .inl o_skips)), (a_o_tunes, .inl (cI, 3, .inl o_tunes)), (a_o_s, .inl (cI, 105, .inl o_s_6)), (a_o_makes, .inl (cI, 6, .inl o_makes)), (a_o_works, .inl (cI, 6, .inl o_works))]) hK hN hA hS hP hD [0, 1, 2, 3, 4, 5, 7, 8] rfl rfl (q0 := 0) (ci := 5) rfl rfl rfl) rfl rfl hl.1 rfl (lv_room (Nat.le_of_ble_eq_true rfl)) dX5_lacking_40 ⟨Nat.zero_le _, Nat.zero_le _⟩) hP hD hS hA [0, 1, 2, 3, 4, 5, 7, 8] rfl rfl rfl (fun H locs hP hD hS => ?_)
        have hP : va_P (dC, dI) vwCl [(a_o, .inr (5, [.int (0 : Int32), .long o_trace, .ref a_o_text, .int o_typed, .int o_next, .int o_token, .int o_place, .int o_value, .int o_fault, .ref a_o_need, .ref a_o_made, .ref a_o_skillTold, .ref a_o_placeTold, .ref a_o_skips, .ref a_o_wheelTold, .int o_trades, .int o_people, .int o_draftTrades, .int o_draftPeople, .int o_isShut, .ref a_o_tunes, .ref a_o_s, .ref a_o_spare, .ref a_o_kept, .ref a_o_isKept, .ref a_o_makes, .ref a_o_works, .ref a_o_order, .int o_falling_9])), (a_o_need, .inl (cI, 12, .inl o_need)), (a_o_made, .inl (cI, 12, .inl o_made)), (a_o_skips, .inl (cI, 12, .inl o_skips)), (a_o_tunes, .inl (cI, 3, .inl o_tunes)), (a_o_s, .inl (cI, 105, .inl o_s_10)), (a_o_spare, .inl (cI, 105, .inl o_spare_7)), (a_o_makes, .inl (cI, 6, .inl o_makes_11)), (a_o_works, .inl (cI, 6, .inl o_works_12))] H := hP
        have hD : va_D A [(a_o, .inr (5, [.int (0 : Int32), .long o_trace, .ref a_o_text, .int o_typed, .int o_next, .int o_token, .int o_place, .int o_value, .int o_fault, .ref a_o_need, .ref a_o_made, .ref a_o_skillTold, .ref a_o_placeTold, .ref a_o_skips, .ref a_o_wheelTold, .int o_trades, .int o_people, .int o_draftTrades, .int o_draftPeople, .int o_isShut, .ref a_o_tunes, .ref a_o_s, .ref a_o_spare, .ref a_o_kept, .ref a_o_isKept, .ref a_o_makes, .ref a_o_works, .ref a_o_order, .int o_falling_9])), (a_o_need, .inl (cI, 12, .inl o_need)), (a_o_made, .inl (cI, 12, .inl o_made)), (a_o_skips, .inl (cI, 12, .inl o_skips)), (a_o_tunes, .inl (cI, 3, .inl o_tunes)), (a_o_s, .inl (cI, 105, .inl o_s_10)), (a_o_spare, .inl (cI, 105, .inl o_spare_7)), (a_o_makes, .inl (cI, 6, .inl o_makes_11)), (a_o_works, .inl (cI, 6, .inl o_works_12))] := hD
        refine lv_istore_n (lv' := [(3, .int r_8), (0, .ref a_o), (1, .int i1), (2, .int i2)]) hx hb dX5_lacking_43 rfl hl (by decide) rfl (fun ls hl => ?_)
        refine lv_aload_n hx hb dX5_lacking_44 rfl (lv_at hl 1 rfl) ?_
        refine lv_iconst (v := (0 : Int32)) hx hb dX5_lacking_45 (by decide) ?_
        obtain ⟨o_s_13, o_spare_14, hc, hf⟩ := pb2 hf
        refine gCv (va_runV (As := [.int (0 : Int32)]) (rest := []) hF (kX5_aside l dC dI Z cC cI cZ cW a_o a_o_text a_o_need a_o_made a_o_skillTold a_o_placeTold a_o_skips a_o_wheelTold a_o_tunes a_o_s a_o_spare a_o_kept a_o_isKept a_o_makes a_o_works a_o_order _ (0 : Int32) o_trace o_typed o_next o_token o_place o_value o_fault o_trades o_people o_draftTrades o_draftPeople o_isShut o_falling_9 o_s_10 o_spare_7 (0 : Int32) N o_s_13 o_spare_14 hc) (cwV 1 hts gX5_lacking_X5_aside rfl rfl rfl (by decide +kernel) ⟨Nat.le_of_ble_eq_true rfl, Nat.le_of_ble_eq_true rfl⟩) (gPV (wc := [(a_o, .inr (5, [.int (0 : Int32), .long o_trace, .ref a_o_text, .int o_typed, .int o_next, .int o_token, .int o_place, .int o_value, .int o_fault, .ref a_o_need, .ref a_o_made, .ref a_o_skillTold, .ref a_o_placeTold, .ref a_o_skips, .ref a_o_wheelTold, .int o_trades, .int o_people, .int o_draftTrades, .int o_draftPeople, .int o_isShut, .ref a_o_tunes, .ref a_o_s, .ref a_o_spare, .ref a_o_kept, .ref a_o_isKept, .ref a_o_makes, .ref a_o_works, .ref a_o_order, .int o_falling_9])), (a_o_s, .inl (cI, 105, .inl o_s_10)), (a_o_spare, .inl (cI, 105, .inl o_spare_7))]) hK hN hA hS hP hD [0, 5, 6] rfl rfl (q0 := 0) (ci := 5) rfl rfl rfl) rfl rfl hl.1 rfl (lv_room (Nat.le_of_ble_eq_true rfl)) dX5_lacking_46 ⟨Nat.zero_le _, Nat.zero_le _⟩) hP hD hS hA [0, 5, 6] rfl rfl rfl (fun H locs hP hD hS => ?_)
        have hP : va_P (dC, dI) vwCl [(a_o, .inr (5, [.int (0 : Int32), .long o_trace, .ref a_o_text, .int o_typed, .int o_next, .int o_token, .int o_place, .int o_value, .int o_fault, .ref a_o_need, .ref a_o_made, .ref a_o_skillTold, .ref a_o_placeTold, .ref a_o_skips, .ref a_o_wheelTold, .int o_trades, .int o_people, .int o_draftTrades, .int o_draftPeople, .int o_isShut, .ref a_o_tunes, .ref a_o_s, .ref a_o_spare, .ref a_o_kept, .ref a_o_isKept, .ref a_o_makes, .ref a_o_works, .ref a_o_order, .int o_falling_9])), (a_o_need, .inl (cI, 12, .inl o_need)), (a_o_made, .inl (cI, 12, .inl o_made)), (a_o_skips, .inl (cI, 12, .inl o_skips)), (a_o_tunes, .inl (cI, 3, .inl o_tunes)), (a_o_s, .inl (cI, 105, .inl o_s_13)), (a_o_spare, .inl (cI, 105, .inl o_spare_14)), (a_o_makes, .inl (cI, 6, .inl o_makes_11)), (a_o_works, .inl (cI, 6, .inl o_works_12))] H := hP
        have hD : va_D A [(a_o, .inr (5, [.int (0 : Int32), .long o_trace, .ref a_o_text, .int o_typed, .int o_next, .int o_token, .int o_place, .int o_value, .int o_fault, .ref a_o_need, .ref a_o_made, .ref a_o_skillTold, .ref a_o_placeTold, .ref a_o_skips, .ref a_o_wheelTold, .int o_trades, .int o_people, .int o_draftTrades, .int o_draftPeople, .int o_isShut, .ref a_o_tunes, .ref a_o_s, .ref a_o_spare, .ref a_o_kept, .ref a_o_isKept, .ref a_o_makes, .ref a_o_works, .ref a_o_order, .int o_falling_9])), (a_o_need, .inl (cI, 12, .inl o_need)), (a_o_made, .inl (cI, 12, .inl o_made)), (a_o_skips, .inl (cI, 12, .inl o_skips)), (a_o_tunes, .inl (cI, 3, .inl o_tunes)), (a_o_s, .inl (cI, 105, .inl o_s_13)), (a_o_spare, .inl (cI, 105, .inl o_spare_14)), (a_o_makes, .inl (cI, 6, .inl o_makes_11)), (a_o_works, .inl (cI, 6, .inl o_works_12))] := hD
        refine lv_iload_n hx hb dX5_lacking_49 rfl (lv_at hl 3 rfl) ?_
        refine lv_if_ne (tgt := 57) hx hb dX5_lacking_50 (by decide) (fun c_15 => ?_) (fun c_15 => ?_)
        · have hf := pif hf c_15
          refine lv_aload_n hx hb dX5_lacking_57 rfl (lv_at hl 1 rfl) ?_
          refine va_get (D := (dC, dI)) (ci := 5) (v := .int o_falling_9) (C := RX5) (T := TX5) (N := 29) hx hb hts uX5_lacking_X5 hown hK hP 0 rfl rfl 28 (by decide) (hts _ mX5_lacking_2) (fun _ h9 => h9) rfl dX5_lacking_58 ?_
          have q0 := Option.some.inj hf
          obtain ⟨e0, q1⟩ := Prod.mk.inj q0
          obtain ⟨e1, q2⟩ := Prod.mk.inj q1
          obtain ⟨e2, q3⟩ := Prod.mk.inj q2
          obtain ⟨e3, q4⟩ := Prod.mk.inj q3
          obtain ⟨e4, q5⟩ := Prod.mk.inj q4
          obtain ⟨e5, q6⟩ := Prod.mk.inj q5
          subst e0
          subst e1
          subst e2
          subst e3
          subst e4
          subst e5
          subst q6
          exact gRi hx hb hr hlocks hP hS dX5_lacking_61
        · have hf := pit hf c_15
          refine lv_iload_n hx hb dX5_lacking_53 rfl (lv_at hl 0 rfl) ?_
          refine lv_goto (tgt := 61) hx hb dX5_lacking_54 (by decide) ?_
          have q0 := Option.some.inj hf
          obtain ⟨e0, q1⟩ := Prod.mk.inj q0
          obtain ⟨e1, q2⟩ := Prod.mk.inj q1
          obtain ⟨e2, q3⟩ := Prod.mk.inj q2
          obtain ⟨e3, q4⟩ := Prod.mk.inj q3
          obtain ⟨e4, q5⟩ := Prod.mk.inj q4
          obtain ⟨e5, q6⟩ := Prod.mk.inj q5
          subst e0
          subst e1
          subst e2
          subst e3
          subst e4
          subst e5
          subst q6
          exact gRi hx hb hr hlocks hP hS dX5_lacking_61
      · have hf := pit hf c_5
        refine lv_bipush (v := (-2 : Int32)) hx hb dX5_lacking_30 (by decide) ?_
        have q0 := Option.some.inj hf
        obtain ⟨e0, q1⟩ := Prod.mk.inj q0
        obtain ⟨e1, q2⟩ := Prod.mk.inj q1
        obtain ⟨e2, q3⟩ := Prod.mk.inj q2
        obtain ⟨e3, q4⟩ := Prod.mk.inj q3
        obtain ⟨e4, q5⟩ := Prod.mk.inj q4
        obtain ⟨e5, q6⟩ := Prod.mk.inj q5
        subst e0
        subst e1
        subst e2
        subst e3
        subst e4
        subst e5
        subst q6
        exact gRi hx hb hr hlocks hP hS dX5_lacking_32
    · have hf := pit hf c_4
      refine lv_iconst (v := (-1 : Int32)) hx hb dX5_lacking_21 (by decide) ?_
      have q0 := Option.some.inj hf
      obtain ⟨e0, q1⟩ := Prod.mk.inj q0
      obtain ⟨e1, q2⟩ := Prod.mk.inj q1
      obtain ⟨e2, q3⟩ := Prod.mk.inj q2
      obtain ⟨e3, q4⟩ := Prod.mk.inj q3
      obtain ⟨e4, q5⟩ := Prod.mk.inj q4
      obtain ⟨e5, q6⟩ := Prod.mk.inj q5
      subst e0
      subst e1
      subst e2
      subst e3
      subst e4
      subst e5
      subst q6
      exact gRi hx hb hr hlocks hP hS dX5_lacking_22
abbrev rmX5_best : Room := { frames := 5, cells := 0, slots := 0, locals := 117 }
set_option maxRecDepth 20000 in
theorem uX5_best_X5 : ∀ w ∈ wsX50, w ∈ wsX5_best := by decide +kernel
set_option maxRecDepth 20000 in
theorem mX5_best_0 : (Cond.fieldLink RX5 59 "TradeWheelModel" "thrown" "I" : Cond) ∈ wsX5_best := by decide +kernel
set_option maxRecDepth 20000 in
theorem mX5_best_1 : (Cond.fieldLink RX5 137 "TradeWheelModel" "trades" "I" : Cond) ∈ wsX5_best := by decide +kernel
set_option maxRecDepth 20000 in
theorem mX5_best_2 : (Cond.fieldLink RX5 53 "TradeWheelModel" "order" "[I" : Cond) ∈ wsX5_best := by decide +kernel
set_option maxRecDepth 20000 in
theorem mX5_best_3 : (Cond.fieldLink RX5 34 "TradeWheelModel" "s" "[I" : Cond) ∈ wsX5_best := by decide +kernel
set_option maxHeartbeats 4000000 in
set_option maxRecDepth 100000 in
theorem wX5_best_40 {p : Program} {l : Launch} {e : Env} {s : State} {m : MethodId} {args : Array Value} {below : List Frame} {meth : Method} {c : Code} {Q : State → Prop} {A : Nat → Prop} {dC : Nat → ClassId} {dI : Nat → Nat → Nat} {Z : gZ} {cC cI cZ cW : ClassId} (hg0 : gX p s m args meth c cX5_best 8 (some .int) wsX5_best RX5 (dC, dI) Z [(cC, .char), (cI, .int), (cZ, .boolean), (cW, .object RX3)] A) (a_o a_o_text a_o_need a_o_made a_o_skillTold a_o_placeTold a_o_skips a_o_wheelTold a_o_tunes a_o_s a_o_spare a_o_kept a_o_isKept a_o_makes a_o_works a_o_order : Nat) (o_thrown : Int32) (o_trace : Int64) (o_typed : Int32) (o_next : Int32) (o_token : Int32) (o_place : Int32) (o_value : Int32) (o_fault : Int32) (o_trades : Int32) (o_people : Int32) (o_draftTrades : Int32) (o_draftPeople : Int32) (o_isShut : Int32) (o_falling : Int32) (o_need : Nat → Int32) (o_made : Nat → Int32) (o_skips : Nat → Int32) (o_tunes : Nat → Int32) (o_s : Nat → Int32) (o_spare : Nat → Int32) (o_makes : Nat → Int32) (o_works : Nat → Int32) (l1 : Int32) (l2 : Int32) (N : Nat) : ∀ (n : Nat) (o_order : Nat → Int32) (l3 : Int32) (o_order' : Nat → Int32) (l3' : Int32), fX5_best_40 N o_trades n o_order l3 = some (o_order', l3') → ∀ (H : Heap) (locs : List Loc) (ls : Array Slot), va_P (dC, dI) vwCl [(a_o, .inr (5, [.int o_thrown, .long o_trace, .ref a_o_text, .int o_typed, .int o_next, .int o_token, .int o_place, .int o_value, .int o_fault, .ref a_o_need, .ref a_o_made, .ref a_o_skillTold, .ref a_o_placeTold, .ref a_o_skips, .ref a_o_wheelTold, .int o_trades, .int o_people, .int o_draftTrades, .int o_draftPeople, .int o_isShut, .ref a_o_tunes, .ref a_o_s, .ref a_o_spare, .ref a_o_kept, .ref a_o_isKept, .ref a_o_makes, .ref a_o_works, .ref a_o_order, .int o_falling])), (a_o_need, .inl (cI, 12, .inl o_need)), (a_o_made, .inl (cI, 12, .inl o_made)), (a_o_skips, .inl (cI, 12, .inl o_skips)), (a_o_tunes, .inl (cI, 3, .inl o_tunes)), (a_o_s, .inl (cI, 105, .inl o_s)), (a_o_spare, .inl (cI, 105, .inl o_spare)), (a_o_makes, .inl (cI, 6, .inl o_makes)), (a_o_works, .inl (cI, 6, .inl o_works)), (a_o_order, .inl (cI, 6, .inl o_order))] H → va_D A [(a_o, .inr (5, [.int o_thrown, .long o_trace, .ref a_o_text, .int o_typed, .int o_next, .int o_token, .int o_place, .int o_value, .int o_fault, .ref a_o_need, .ref a_o_made, .ref a_o_skillTold, .ref a_o_placeTold, .ref a_o_skips, .ref a_o_wheelTold, .int o_trades, .int o_people, .int o_draftTrades, .int o_draftPeople, .int o_isShut, .ref a_o_tunes, .ref a_o_s, .ref a_o_spare, .ref a_o_kept, .ref a_o_isKept, .ref a_o_makes, .ref a_o_works, .ref a_o_order, .int o_falling])), (a_o_need, .inl (cI, 12, .inl o_need)), (a_o_made, .inl (cI, 12, .inl o_made)), (a_o_skips, .inl (cI, 12, .inl o_skips)), (a_o_tunes, .inl (cI, 3, .inl o_tunes)), (a_o_s, .inl (cI, 105, .inl o_s)), (a_o_spare, .inl (cI, 105, .inl o_spare)), (a_o_makes, .inl (cI, 6, .inl o_makes)), (a_o_works, .inl (cI, 6, .inl o_works)), (a_o_order, .inl (cI, 6, .inl o_order))] → va_S A s.heap H locs → lv_has ls 8 [(0, .ref a_o), (1, .int l1), (2, .int l2), (3, .int l3)] → (∀ (H : Heap) (locs : List Loc) (ls : Array Slot), va_P (dC, dI) vwCl [(a_o, .inr (5, [.int o_thrown, .long o_trace, .ref a_o_text, .int o_typed, .int o_next, .int o_token, .int o_place, .int o_value, .int o_fault, .ref a_o_need, .ref a_o_made, .ref a_o_skillTold, .ref a_o_placeTold, .ref a_o_skips, .ref a_o_wheelTold, .int o_trades, .int o_people, .int o_draftTrades, .int o_draftPeople, .int o_isShut, .ref a_o_tunes, .ref a_o_s, .ref a_o_spare, .ref a_o_kept, .ref a_o_isKept, .ref a_o_makes, .ref a_o_works, .ref a_o_order, .int o_falling])), (a_o_need, .inl (cI, 12, .inl o_need)), (a_o_made, .inl (cI, 12, .inl o_made)), (a_o_skips, .inl (cI, 12, .inl o_skips)), (a_o_tunes, .inl (cI, 3, .inl o_tunes)), (a_o_s, .inl (cI, 105, .inl o_s)), (a_o_spare, .inl (cI, 105, .inl o_spare)), (a_o_makes, .inl (cI, 6, .inl o_makes)), (a_o_works, .inl (cI, 6, .inl o_works)), (a_o_order, .inl (cI, 6, .inl o_order'))] H → va_D A [(a_o, .inr (5, [.int o_thrown, .long o_trace, .ref a_o_text, .int o_typed, .int o_next, .int o_token, .int o_place, .int o_value, .int o_fault, .ref a_o_need, .ref a_o_made, .ref a_o_skillTold, .ref a_o_placeTold, .ref a_o_skips, .ref a_o_wheelTold, .int o_trades, .int o_people, .int o_draftTrades, .int o_draftPeople, .int o_isShut, .ref a_o_tunes, .ref a_o_s, .ref a_o_spare, .ref a_o_kept, .ref a_o_isKept, .ref a_o_makes, .ref a_o_works, .ref a_o_order, .int o_falling])), (a_o_need, .inl (cI, 12, .inl o_need)), (a_o_made, .inl (cI, 12, .inl o_made)), (a_o_skips, .inl (cI, 12, .inl o_skips)), (a_o_tunes, .inl (cI, 3, .inl o_tunes)), (a_o_s, .inl (cI, 105, .inl o_s)), (a_o_spare, .inl (cI, 105, .inl o_spare)), (a_o_makes, .inl (cI, 6, .inl o_makes)), (a_o_works, .inl (cI, 6, .inl o_works)), (a_o_order, .inl (cI, 6, .inl o_order'))] → va_S A s.heap H locs → lv_has ls 8 [(0, .ref a_o), (1, .int l1), (2, .int l2)] → W p l e (headSpec wsX5_best rmX5_best).room s m args below meth c H locs 0 0 Q (F0 m 61 ls [])) → W p l e (headSpec wsX5_best rmX5_best).room s m args below meth c H locs 0 0 Q (F0 m 40 ls []) := by
  obtain ⟨hx, hb, hr, hml, hown, hts, hlocks, hA, hK, hN⟩ := id hg0
  have hF : CallFix p m c cX5_best 8 s args wsX5_best RX5 := ⟨hx, hb, hml, hown, hts⟩
  intro n
  induction n with
  | zero =>
    intro o_order l3 o_order' l3' hf
    have hf := fX5_best_40_0.symm.trans hf
    cases hf
  | succ n ih =>
    intro o_order l3 o_order' l3' hf H locs ls hP hD hS hl kx
    have hf := fX5_best_40_s.symm.trans hf
    refine lv_iload_n hx hb dX5_best_40 rfl (lv_at hl 3 rfl) ?_
    refine lv_aload_n hx hb dX5_best_41 rfl (lv_at hl 0 rfl) ?_
    refine va_get (D := (dC, dI)) (ci := 5) (v := .int o_trades) (C := RX5) (T := TX5) (N := 29) hx hb hts uX5_best_X5 hown hK hP 0 rfl rfl 15 (by decide) (hts _ mX5_best_1) (fun _ h9 => h9) rfl dX5_best_42 ?_
    refine lv_icmp_ge (tgt := 61) hx hb dX5_best_45 (by decide) (fun c_1 => ?_) (fun c_1 => ?_)
    · have hf := pit hf c_1
      have q0 := Option.some.inj hf
      obtain ⟨e0, q1⟩ := Prod.mk.inj q0
      subst e0
      subst q1
      exact kx _ _ _ hP hD hS (lv_sub hl [0, 1, 2] rfl)
    · have hf := pif hf c_1
      refine lv_aload_n hx hb dX5_best_48 rfl (lv_at hl 0 rfl) ?_
      refine va_get (D := (dC, dI)) (ci := 5) (v := .ref a_o_order) (C := RX5) (T := TX5) (N := 29) hx hb hts uX5_best_X5 hown hK hP 0 rfl rfl 27 (by decide) (hts _ mX5_best_2) (fun _ h9 => h9) rfl dX5_best_49 ?_
      refine lv_iload_n hx hb dX5_best_52 rfl (lv_at hl 3 rfl) ?_
      refine lv_iload_n hx hb dX5_best_53 rfl (lv_at hl 3 rfl) ?_
      obtain ⟨h_2, hf⟩ := pgd hf
      refine va_iast hx hb hK hP hD hS 9 1 rfl rfl h_2 dX5_best_54 (fun H locs hP hD hS => ?_)
      have hP : va_P (dC, dI) vwCl [(a_o, .inr (5, [.int o_thrown, .long o_trace, .ref a_o_text, .int o_typed, .int o_next, .int o_token, .int o_place, .int o_value, .int o_fault, .ref a_o_need, .ref a_o_made, .ref a_o_skillTold, .ref a_o_placeTold, .ref a_o_skips, .ref a_o_wheelTold, .int o_trades, .int o_people, .int o_draftTrades, .int o_draftPeople, .int o_isShut, .ref a_o_tunes, .ref a_o_s, .ref a_o_spare, .ref a_o_kept, .ref a_o_isKept, .ref a_o_makes, .ref a_o_works, .ref a_o_order, .int o_falling])), (a_o_need, .inl (cI, 12, .inl o_need)), (a_o_made, .inl (cI, 12, .inl o_made)), (a_o_skips, .inl (cI, 12, .inl o_skips)), (a_o_tunes, .inl (cI, 3, .inl o_tunes)), (a_o_s, .inl (cI, 105, .inl o_s)), (a_o_spare, .inl (cI, 105, .inl o_spare)), (a_o_makes, .inl (cI, 6, .inl o_makes)), (a_o_works, .inl (cI, 6, .inl o_works)), (a_o_order, .inl (cI, 6, .inl (upd o_order l3.toNatClampNeg l3)))] H := hP
      have hD : va_D A [(a_o, .inr (5, [.int o_thrown, .long o_trace, .ref a_o_text, .int o_typed, .int o_next, .int o_token, .int o_place, .int o_value, .int o_fault, .ref a_o_need, .ref a_o_made, .ref a_o_skillTold, .ref a_o_placeTold, .ref a_o_skips, .ref a_o_wheelTold, .int o_trades, .int o_people, .int o_draftTrades, .int o_draftPeople, .int o_isShut, .ref a_o_tunes, .ref a_o_s, .ref a_o_spare, .ref a_o_kept, .ref a_o_isKept, .ref a_o_makes, .ref a_o_works, .ref a_o_order, .int o_falling])), (a_o_need, .inl (cI, 12, .inl o_need)), (a_o_made, .inl (cI, 12, .inl o_made)), (a_o_skips, .inl (cI, 12, .inl o_skips)), (a_o_tunes, .inl (cI, 3, .inl o_tunes)), (a_o_s, .inl (cI, 105, .inl o_s)), (a_o_spare, .inl (cI, 105, .inl o_spare)), (a_o_makes, .inl (cI, 6, .inl o_makes)), (a_o_works, .inl (cI, 6, .inl o_works)), (a_o_order, .inl (cI, 6, .inl (upd o_order l3.toNatClampNeg l3)))] := hD
      refine lv_iinc (v := (l3 + 1)) (lv' := [(3, .int (l3 + 1)), (0, .ref a_o), (1, .int l1), (2, .int l2)]) hx hb dX5_best_55 hl (k := 3) rfl rfl (by decide) rfl (fun ls hl => ?_)
      refine lv_goto (tgt := 40) hx hb dX5_best_58 (by decide) ?_
      exact ih _ _ _ _ hf _ _ _ hP hD hS (lv_sub hl [1, 2, 3, 0] rfl) kx
set_option maxHeartbeats 4000000 in
set_option maxRecDepth 100000 in
theorem wX5_best_81 {p : Program} {l : Launch} {e : Env} {s : State} {m : MethodId} {args : Array Value} {below : List Frame} {meth : Method} {c : Code} {Q : State → Prop} {A : Nat → Prop} {dC : Nat → ClassId} {dI : Nat → Nat → Nat} {Z : gZ} {cC cI cZ cW : ClassId} (hg0 : gX p s m args meth c cX5_best 8 (some .int) wsX5_best RX5 (dC, dI) Z [(cC, .char), (cI, .int), (cZ, .boolean), (cW, .object RX3)] A) (a_o a_o_text a_o_need a_o_made a_o_skillTold a_o_placeTold a_o_skips a_o_wheelTold a_o_tunes a_o_s a_o_spare a_o_kept a_o_isKept a_o_makes a_o_works a_o_order : Nat) (o_thrown : Int32) (o_trace : Int64) (o_typed : Int32) (o_next : Int32) (o_token : Int32) (o_place : Int32) (o_value : Int32) (o_fault : Int32) (o_trades : Int32) (o_people : Int32) (o_draftTrades : Int32) (o_draftPeople : Int32) (o_isShut : Int32) (o_falling : Int32) (o_need : Nat → Int32) (o_made : Nat → Int32) (o_skips : Nat → Int32) (o_tunes : Nat → Int32) (o_spare : Nat → Int32) (o_makes : Nat → Int32) (o_works : Nat → Int32) (o_order : Nat → Int32) (l1 : Int32) (l2 : Int32) (l3 : Int32) (l4 : Int32) (N : Nat) : ∀ (n : Nat) (o_s : Nat → Int32) (l6 : Int32) (l7 : Int32) (o_s' : Nat → Int32) (l6' : Int32) (l7' : Int32), fX5_best_81 N o_trades o_order n o_s l6 l7 = some (o_s', l6', l7') → ∀ (H : Heap) (locs : List Loc) (ls : Array Slot), va_P (dC, dI) vwCl [(a_o, .inr (5, [.int o_thrown, .long o_trace, .ref a_o_text, .int o_typed, .int o_next, .int o_token, .int o_place, .int o_value, .int o_fault, .ref a_o_need, .ref a_o_made, .ref a_o_skillTold, .ref a_o_placeTold, .ref a_o_skips, .ref a_o_wheelTold, .int o_trades, .int o_people, .int o_draftTrades, .int o_draftPeople, .int o_isShut, .ref a_o_tunes, .ref a_o_s, .ref a_o_spare, .ref a_o_kept, .ref a_o_isKept, .ref a_o_makes, .ref a_o_works, .ref a_o_order, .int o_falling])), (a_o_need, .inl (cI, 12, .inl o_need)), (a_o_made, .inl (cI, 12, .inl o_made)), (a_o_skips, .inl (cI, 12, .inl o_skips)), (a_o_tunes, .inl (cI, 3, .inl o_tunes)), (a_o_s, .inl (cI, 105, .inl o_s)), (a_o_spare, .inl (cI, 105, .inl o_spare)), (a_o_makes, .inl (cI, 6, .inl o_makes)), (a_o_works, .inl (cI, 6, .inl o_works)), (a_o_order, .inl (cI, 6, .inl o_order))] H → va_D A [(a_o, .inr (5, [.int o_thrown, .long o_trace, .ref a_o_text, .int o_typed, .int o_next, .int o_token, .int o_place, .int o_value, .int o_fault, .ref a_o_need, .ref a_o_made, .ref a_o_skillTold, .ref a_o_placeTold, .ref a_o_skips, .ref a_o_wheelTold, .int o_trades, .int o_people, .int o_draftTrades, .int o_draftPeople, .int o_isShut, .ref a_o_tunes, .ref a_o_s, .ref a_o_spare, .ref a_o_kept, .ref a_o_isKept, .ref a_o_makes, .ref a_o_works, .ref a_o_order, .int o_falling])), (a_o_need, .inl (cI, 12, .inl o_need)), (a_o_made, .inl (cI, 12, .inl o_made)), (a_o_skips, .inl (cI, 12, .inl o_skips)), (a_o_tunes, .inl (cI, 3, .inl o_tunes)), (a_o_s, .inl (cI, 105, .inl o_s)), (a_o_spare, .inl (cI, 105, .inl o_spare)), (a_o_makes, .inl (cI, 6, .inl o_makes)), (a_o_works, .inl (cI, 6, .inl o_works)), (a_o_order, .inl (cI, 6, .inl o_order))] → va_S A s.heap H locs → lv_has ls 8 [(0, .ref a_o), (1, .int l1), (2, .int l2), (3, .int l3), (4, .int l4), (6, .int l6), (7, .int l7)] → (∀ (H : Heap) (locs : List Loc) (ls : Array Slot), va_P (dC, dI) vwCl [(a_o, .inr (5, [.int o_thrown, .long o_trace, .ref a_o_text, .int o_typed, .int o_next, .int o_token, .int o_place, .int o_value, .int o_fault, .ref a_o_need, .ref a_o_made, .ref a_o_skillTold, .ref a_o_placeTold, .ref a_o_skips, .ref a_o_wheelTold, .int o_trades, .int o_people, .int o_draftTrades, .int o_draftPeople, .int o_isShut, .ref a_o_tunes, .ref a_o_s, .ref a_o_spare, .ref a_o_kept, .ref a_o_isKept, .ref a_o_makes, .ref a_o_works, .ref a_o_order, .int o_falling])), (a_o_need, .inl (cI, 12, .inl o_need)), (a_o_made, .inl (cI, 12, .inl o_made)), (a_o_skips, .inl (cI, 12, .inl o_skips)), (a_o_tunes, .inl (cI, 3, .inl o_tunes)), (a_o_s, .inl (cI, 105, .inl o_s')), (a_o_spare, .inl (cI, 105, .inl o_spare)), (a_o_makes, .inl (cI, 6, .inl o_makes)), (a_o_works, .inl (cI, 6, .inl o_works)), (a_o_order, .inl (cI, 6, .inl o_order))] H → va_D A [(a_o, .inr (5, [.int o_thrown, .long o_trace, .ref a_o_text, .int o_typed, .int o_next, .int o_token, .int o_place, .int o_value, .int o_fault, .ref a_o_need, .ref a_o_made, .ref a_o_skillTold, .ref a_o_placeTold, .ref a_o_skips, .ref a_o_wheelTold, .int o_trades, .int o_people, .int o_draftTrades, .int o_draftPeople, .int o_isShut, .ref a_o_tunes, .ref a_o_s, .ref a_o_spare, .ref a_o_kept, .ref a_o_isKept, .ref a_o_makes, .ref a_o_works, .ref a_o_order, .int o_falling])), (a_o_need, .inl (cI, 12, .inl o_need)), (a_o_made, .inl (cI, 12, .inl o_made)), (a_o_skips, .inl (cI, 12, .inl o_skips)), (a_o_tunes, .inl (cI, 3, .inl o_tunes)), (a_o_s, .inl (cI, 105, .inl o_s')), (a_o_spare, .inl (cI, 105, .inl o_spare)), (a_o_makes, .inl (cI, 6, .inl o_makes)), (a_o_works, .inl (cI, 6, .inl o_works)), (a_o_order, .inl (cI, 6, .inl o_order))] → va_S A s.heap H locs → lv_has ls 8 [(0, .ref a_o), (1, .int l1), (2, .int l2), (3, .int l3), (4, .int l4), (6, .int l6')] → W p l e (headSpec wsX5_best rmX5_best).room s m args below meth c H locs 0 0 Q (F0 m 128 ls [])) → W p l e (headSpec wsX5_best rmX5_best).room s m args below meth c H locs 0 0 Q (F0 m 81 ls []) := by
  obtain ⟨hx, hb, hr, hml, hown, hts, hlocks, hA, hK, hN⟩ := id hg0
  have hF : CallFix p m c cX5_best 8 s args wsX5_best RX5 := ⟨hx, hb, hml, hown, hts⟩
  intro n
  induction n with
  | zero =>
    intro o_s l6 l7 o_s' l6' l7' hf
    have hf := fX5_best_81_0.symm.trans hf
    cases hf
  | succ n ih =>
    intro o_s l6 l7 o_s' l6' l7' hf H locs ls hP hD hS hl kx
    have hf := fX5_best_81_s.symm.trans hf
    refine lv_iload hx hb dX5_best_81 (lv_at hl 6 rfl) ?_
    refine lv_aload_n hx hb dX5_best_83 rfl (lv_at hl 0 rfl) ?_
    refine va_get (D := (dC, dI)) (ci := 5) (v := .int o_trades) (C := RX5) (T := TX5) (N := 29) hx hb hts uX5_best_X5 hown hK hP 0 rfl rfl 15 (by decide) (hts _ mX5_best_1) (fun _ h9 => h9) rfl dX5_best_84 ?_
    refine lv_icmp_ge (tgt := 128) hx hb dX5_best_87 (by decide) (fun c_1 => ?_) (fun c_1 => ?_)
    · have hf := pit hf c_1
      have q0 := Option.some.inj hf
      obtain ⟨e0, q1⟩ := Prod.mk.inj q0
      obtain ⟨e1, q2⟩ := Prod.mk.inj q1
      subst e0
      subst e1
      subst q2
      exact kx _ _ _ hP hD hS (lv_sub hl [0, 1, 2, 3, 4, 5] rfl)
    · have hf := pif hf c_1
      refine lv_aload_n hx hb dX5_best_90 rfl (lv_at hl 0 rfl) ?_
      refine va_get (D := (dC, dI)) (ci := 5) (v := .ref a_o_s) (C := RX5) (T := TX5) (N := 29) hx hb hts uX5_best_X5 hown hK hP 0 rfl rfl 21 (by decide) (hts _ mX5_best_3) (fun _ h9 => h9) rfl dX5_best_91 ?_
      refine lv_bipush (v := (14 : Int32)) hx hb dX5_best_94 (by decide) ?_
      refine lv_iload hx hb dX5_best_96 (lv_at hl 6 rfl) ?_
      refine lv_iadd hx hb dX5_best_98 ?_
      refine lv_aload_n hx hb dX5_best_99 rfl (lv_at hl 0 rfl) ?_
      refine va_get (D := (dC, dI)) (ci := 5) (v := .ref a_o_order) (C := RX5) (T := TX5) (N := 29) hx hb hts uX5_best_X5 hown hK hP 0 rfl rfl 27 (by decide) (hts _ mX5_best_2) (fun _ h9 => h9) rfl dX5_best_100 ?_
      refine lv_iload hx hb dX5_best_103 (lv_at hl 6 rfl) ?_
      obtain ⟨h_2, hf⟩ := pgd hf
      refine va_iald hx hb hK hP 9 1 rfl rfl h_2 dX5_best_105 ?_
      obtain ⟨h_3, hf⟩ := pgd hf
      refine va_iast hx hb hK hP hD hS 5 1 rfl rfl h_3 dX5_best_106 (fun H locs hP hD hS => ?_)
      have hP : va_P (dC, dI) vwCl [(a_o, .inr (5, [.int o_thrown, .long o_trace, .ref a_o_text, .int o_typed, .int o_next, .int o_token, .int o_place, .int o_value, .int o_fault, .ref a_o_need, .ref a_o_made, .ref a_o_skillTold, .ref a_o_placeTold, .ref a_o_skips, .ref a_o_wheelTold, .int o_trades, .int o_people, .int o_draftTrades, .int o_draftPeople, .int o_isShut, .ref a_o_tunes, .ref a_o_s, .ref a_o_spare, .ref a_o_kept, .ref a_o_isKept, .ref a_o_makes, .ref a_o_works, .ref a_o_order, .int o_falling])), (a_o_need, .inl (cI, 12, .inl o_need)), (a_o_made, .inl (cI, 12, .inl o_made)), (a_o_skips, .inl (cI, 12, .inl o_skips)), (a_o_tunes, .inl (cI, 3, .inl o_tunes)), (a_o_s, .inl (cI, 105, .inl (upd o_s ((14 : Int32) + l7).toNatClampNeg (o_order l7.toNatClampNeg)))), (a_o_spare, .inl (cI, 105, .inl o_spare)), (a_o_makes, .inl (cI, 6, .inl o_makes)), (a_o_works, .inl (cI, 6, .inl o_works)), (a_o_order, .inl (cI, 6, .inl o_order))] H := hP
      have hD : va_D A [(a_o, .inr (5, [.int o_thrown, .long o_trace, .ref a_o_text, .int o_typed, .int o_next, .int o_token, .int o_place, .int o_value, .int o_fault, .ref a_o_need, .ref a_o_made, .ref a_o_skillTold, .ref a_o_placeTold, .ref a_o_skips, .ref a_o_wheelTold, .int o_trades, .int o_people, .int o_draftTrades, .int o_draftPeople, .int o_isShut, .ref a_o_tunes, .ref a_o_s, .ref a_o_spare, .ref a_o_kept, .ref a_o_isKept, .ref a_o_makes, .ref a_o_works, .ref a_o_order, .int o_falling])), (a_o_need, .inl (cI, 12, .inl o_need)), (a_o_made, .inl (cI, 12, .inl o_made)), (a_o_skips, .inl (cI, 12, .inl o_skips)), (a_o_tunes, .inl (cI, 3, .inl o_tunes)), (a_o_s, .inl (cI, 105, .inl (upd o_s ((14 : Int32) + l7).toNatClampNeg (o_order l7.toNatClampNeg)))), (a_o_spare, .inl (cI, 105, .inl o_spare)), (a_o_makes, .inl (cI, 6, .inl o_makes)), (a_o_works, .inl (cI, 6, .inl o_works)), (a_o_order, .inl (cI, 6, .inl o_order))] := hD
      refine lv_bipush (v := (10 : Int32)) hx hb dX5_best_107 (by decide) ?_
      refine lv_iload hx hb dX5_best_109 (lv_at hl 5 rfl) ?_
      refine lv_imul hx hb dX5_best_111 ?_
      refine lv_aload_n hx hb dX5_best_112 rfl (lv_at hl 0 rfl) ?_
      refine va_get (D := (dC, dI)) (ci := 5) (v := .ref a_o_order) (C := RX5) (T := TX5) (N := 29) hx hb hts uX5_best_X5 hown hK hP 0 rfl rfl 27 (by decide) (hts _ mX5_best_2) (fun _ h9 => h9) rfl dX5_best_113 ?_
      refine lv_iload hx hb dX5_best_116 (lv_at hl 6 rfl) ?_
      obtain ⟨h_4, hf⟩ := pgd hf
      refine va_iald hx hb hK hP 9 1 rfl rfl h_4 dX5_best_118 ?_
      refine lv_iadd hx hb dX5_best_119 ?_
      refine lv_istore (lv' := [(6, .int (((10 : Int32) * l6) + (o_order l7.toNatClampNeg))), (0, .ref a_o), (1, .int l1), (2, .int l2), (3, .int l3), (4, .int l4), (7, .int l7)]) hx hb dX5_best_120 hl (by decide) rfl (fun ls hl => ?_)
      refine lv_iinc (v := (l7 + 1)) (lv' := [(7, .int (l7 + 1)), (6, .int (((10 : Int32) * l6) + (o_order l7.toNatClampNeg))), (0, .ref a_o), (1, .int l1), (2, .int l2), (3, .int l3), (4, .int l4)]) hx hb dX5_best_122 hl (k := 6) rfl rfl (by decide) rfl (fun ls hl => ?_)
      refine lv_goto (tgt := 81) hx hb dX5_best_125 (by decide) ?_
      exact ih _ _ _ _ _ _ hf _ _ _ hP hD hS (lv_sub hl [2, 3, 4, 5, 6, 1, 0] rfl) kx
set_option maxHeartbeats 4000000 in
set_option maxRecDepth 100000 in
theorem wX5_best_70 {p : Program} {l : Launch} {e : Env} {s : State} {m : MethodId} {args : Array Value} {below : List Frame} {meth : Method} {c : Code} {Q : State → Prop} {A : Nat → Prop} {dC : Nat → ClassId} {dI : Nat → Nat → Nat} {Z : gZ} {cC cI cZ cW : ClassId} (hg0 : gX p s m args meth c cX5_best 8 (some .int) wsX5_best RX5 (dC, dI) Z [(cC, .char), (cI, .int), (cZ, .boolean), (cW, .object RX3)] A) (a_o a_o_text a_o_need a_o_made a_o_skillTold a_o_placeTold a_o_skips a_o_wheelTold a_o_tunes a_o_s a_o_spare a_o_kept a_o_isKept a_o_makes a_o_works a_o_order : Nat) (o_thrown : Int32) (o_trace : Int64) (o_typed : Int32) (o_next : Int32) (o_token : Int32) (o_place : Int32) (o_value : Int32) (o_fault : Int32) (o_trades : Int32) (o_people : Int32) (o_draftTrades : Int32) (o_draftPeople : Int32) (o_isShut : Int32) (o_need : Nat → Int32) (o_made : Nat → Int32) (o_skips : Nat → Int32) (o_tunes : Nat → Int32) (l1 : Int32) (l2 : Int32) (N : Nat) : ∀ (n : Nat) (o_falling : Int32) (o_s : Nat → Int32) (o_spare : Nat → Int32) (o_makes : Nat → Int32) (o_works : Nat → Int32) (o_order : Nat → Int32) (l3 : Int32) (l4 : Int32) (l5 : Int32) (o_falling' : Int32) (o_s' : Nat → Int32) (o_spare' : Nat → Int32) (o_makes' : Nat → Int32) (o_works' : Nat → Int32) (o_order' : Nat → Int32) (l3' : Int32) (l4' : Int32) (l5' : Int32), fX5_best_70 N o_trades o_people o_need o_made o_skips o_tunes l1 n o_falling o_s o_spare o_makes o_works o_order l3 l4 l5 = some (o_falling', o_s', o_spare', o_makes', o_works', o_order', l3', l4', l5') → ∀ (H : Heap) (locs : List Loc) (ls : Array Slot), va_P (dC, dI) vwCl [(a_o, .inr (5, [.int o_thrown, .long o_trace, .ref a_o_text, .int o_typed, .int o_next, .int o_token, .int o_place, .int o_value, .int o_fault, .ref a_o_need, .ref a_o_made, .ref a_o_skillTold, .ref a_o_placeTold, .ref a_o_skips, .ref a_o_wheelTold, .int o_trades, .int o_people, .int o_draftTrades, .int o_draftPeople, .int o_isShut, .ref a_o_tunes, .ref a_o_s, .ref a_o_spare, .ref a_o_kept, .ref a_o_isKept, .ref a_o_makes, .ref a_o_works, .ref a_o_order, .int o_falling])), (a_o_need, .inl (cI, 12, .inl o_need)), (a_o_made, .inl (cI, 12, .inl o_made)), (a_o_skips, .inl (cI, 12, .inl o_skips)), (a_o_tunes, .inl (cI, 3, .inl o_tunes)), (a_o_s, .inl (cI, 105, .inl o_s)), (a_o_spare, .inl (cI, 105, .inl o_spare)), (a_o_makes, .inl (cI, 6, .inl o_makes)), (a_o_works, .inl (cI, 6, .inl o_works)), (a_o_order, .inl (cI, 6, .inl o_order))] H → va_D A [(a_o, .inr (5, [.int o_thrown, .long o_trace, .ref a_o_text, .int o_typed, .int o_next, .int o_token, .int o_place, .int o_value, .int o_fault, .ref a_o_need, .ref a_o_made, .ref a_o_skillTold, .ref a_o_placeTold, .ref a_o_skips, .ref a_o_wheelTold, .int o_trades, .int o_people, .int o_draftTrades, .int o_draftPeople, .int o_isShut, .ref a_o_tunes, .ref a_o_s, .ref a_o_spare, .ref a_o_kept, .ref a_o_isKept, .ref a_o_makes, .ref a_o_works, .ref a_o_order, .int o_falling])), (a_o_need, .inl (cI, 12, .inl o_need)), (a_o_made, .inl (cI, 12, .inl o_made)), (a_o_skips, .inl (cI, 12, .inl o_skips)), (a_o_tunes, .inl (cI, 3, .inl o_tunes)), (a_o_s, .inl (cI, 105, .inl o_s)), (a_o_spare, .inl (cI, 105, .inl o_spare)), (a_o_makes, .inl (cI, 6, .inl o_makes)), (a_o_works, .inl (cI, 6, .inl o_works)), (a_o_order, .inl (cI, 6, .inl o_order))] → va_S A s.heap H locs → lv_has ls 8 [(0, .ref a_o), (1, .int l1), (2, .int l2), (3, .int l3), (4, .int l4), (5, .int l5)] → (∀ (H : Heap) (locs : List Loc) (ls : Array Slot), va_P (dC, dI) vwCl [(a_o, .inr (5, [.int o_thrown, .long o_trace, .ref a_o_text, .int o_typed, .int o_next, .int o_token, .int o_place, .int o_value, .int o_fault, .ref a_o_need, .ref a_o_made, .ref a_o_skillTold, .ref a_o_placeTold, .ref a_o_skips, .ref a_o_wheelTold, .int o_trades, .int o_people, .int o_draftTrades, .int o_draftPeople, .int o_isShut, .ref a_o_tunes, .ref a_o_s, .ref a_o_spare, .ref a_o_kept, .ref a_o_isKept, .ref a_o_makes, .ref a_o_works, .ref a_o_order, .int o_falling'])), (a_o_need, .inl (cI, 12, .inl o_need)), (a_o_made, .inl (cI, 12, .inl o_made)), (a_o_skips, .inl (cI, 12, .inl o_skips)), (a_o_tunes, .inl (cI, 3, .inl o_tunes)), (a_o_s, .inl (cI, 105, .inl o_s')), (a_o_spare, .inl (cI, 105, .inl o_spare')), (a_o_makes, .inl (cI, 6, .inl o_makes')), (a_o_works, .inl (cI, 6, .inl o_works')), (a_o_order, .inl (cI, 6, .inl o_order'))] H → va_D A [(a_o, .inr (5, [.int o_thrown, .long o_trace, .ref a_o_text, .int o_typed, .int o_next, .int o_token, .int o_place, .int o_value, .int o_fault, .ref a_o_need, .ref a_o_made, .ref a_o_skillTold, .ref a_o_placeTold, .ref a_o_skips, .ref a_o_wheelTold, .int o_trades, .int o_people, .int o_draftTrades, .int o_draftPeople, .int o_isShut, .ref a_o_tunes, .ref a_o_s, .ref a_o_spare, .ref a_o_kept, .ref a_o_isKept, .ref a_o_makes, .ref a_o_works, .ref a_o_order, .int o_falling'])), (a_o_need, .inl (cI, 12, .inl o_need)), (a_o_made, .inl (cI, 12, .inl o_made)), (a_o_skips, .inl (cI, 12, .inl o_skips)), (a_o_tunes, .inl (cI, 3, .inl o_tunes)), (a_o_s, .inl (cI, 105, .inl o_s')), (a_o_spare, .inl (cI, 105, .inl o_spare')), (a_o_makes, .inl (cI, 6, .inl o_makes')), (a_o_works, .inl (cI, 6, .inl o_works')), (a_o_order, .inl (cI, 6, .inl o_order'))] → va_S A s.heap H locs → lv_has ls 8 [(2, .int l2), (3, .int l3'), (4, .int l4')] → W p l e (headSpec wsX5_best rmX5_best).room s m args below meth c H locs 0 0 Q (F0 m 169 ls [])) → W p l e (headSpec wsX5_best rmX5_best).room s m args below meth c H locs 0 0 Q (F0 m 70 ls []) := by
  obtain ⟨hx, hb, hr, hml, hown, hts, hlocks, hA, hK, hN⟩ := id hg0
  have hF : CallFix p m c cX5_best 8 s args wsX5_best RX5 := ⟨hx, hb, hml, hown, hts⟩
  intro n
  induction n with
  | zero =>
    intro o_falling o_s o_spare o_makes o_works o_order l3 l4 l5 o_falling' o_s' o_spare' o_makes' o_works' o_order' l3' l4' l5' hf
    have hf := fX5_best_70_0.symm.trans hf
    cases hf
  | succ n ih =>
    intro o_falling o_s o_spare o_makes o_works o_order l3 l4 l5 o_falling' o_s' o_spare' o_makes' o_works' o_order' l3' l4' l5' hf H locs ls hP hD hS hl kx
    have hf := fX5_best_70_s.symm.trans hf
    refine lv_iload hx hb dX5_best_70 (lv_at hl 5 rfl) ?_
    refine lv_if_eq (tgt := 169) hx hb dX5_best_72 (by decide) (fun c_1 => ?_) (fun c_1 => ?_)
    · have hf := pit hf c_1
      have q0 := Option.some.inj hf
      obtain ⟨e0, q1⟩ := Prod.mk.inj q0
      obtain ⟨e1, q2⟩ := Prod.mk.inj q1
      obtain ⟨e2, q3⟩ := Prod.mk.inj q2
      obtain ⟨e3, q4⟩ := Prod.mk.inj q3
      obtain ⟨e4, q5⟩ := Prod.mk.inj q4
      obtain ⟨e5, q6⟩ := Prod.mk.inj q5
      obtain ⟨e6, q7⟩ := Prod.mk.inj q6
      obtain ⟨e7, q8⟩ := Prod.mk.inj q7
      subst e0
      subst e1
      subst e2
      subst e3
      subst e4
      subst e5
      subst e6
      subst e7
      subst q8
      exact kx _ _ _ hP hD hS (lv_sub hl [2, 3, 4] rfl)
    · have hf := pif hf c_1
      refine lv_iconst (v := (0 : Int32)) hx hb dX5_best_75 (by decide) ?_
      refine lv_istore (lv' := [(6, .int (0 : Int32)), (0, .ref a_o), (1, .int l1), (2, .int l2), (3, .int l3), (4, .int l4), (5, .int l5)]) hx hb dX5_best_76 hl (by decide) rfl (fun ls hl => ?_)
      refine lv_iconst (v := (0 : Int32)) hx hb dX5_best_78 (by decide) ?_
      refine lv_istore (lv' := [(7, .int (0 : Int32)), (6, .int (0 : Int32)), (0, .ref a_o), (1, .int l1), (2, .int l2), (3, .int l3), (4, .int l4), (5, .int l5)]) hx hb dX5_best_79 hl (by decide) rfl (fun ls hl => ?_)
      obtain ⟨o_s_2, l6_3, l7_4, hc, hf⟩ := pb3 hf
      refine wX5_best_81 hg0 a_o a_o_text a_o_need a_o_made a_o_skillTold a_o_placeTold a_o_skips a_o_wheelTold a_o_tunes a_o_s a_o_spare a_o_kept a_o_isKept a_o_makes a_o_works a_o_order o_thrown o_trace o_typed o_next o_token o_place o_value o_fault o_trades o_people o_draftTrades o_draftPeople o_isShut o_falling o_need o_made o_skips o_tunes o_spare o_makes o_works o_order l1 l2 l3 l4 N N o_s (0 : Int32) (0 : Int32) o_s_2 l6_3 l7_4 hc _ _ _ hP hD hS (lv_sub hl [2, 3, 4, 5, 6, 1, 0] rfl) (fun H locs ls hP hD hS hl => ?_)
      refine lv_aload_n hx hb dX5_best_128 rfl (lv_at hl 0 rfl) ?_
      refine lv_iload_n hx hb dX5_best_129 rfl (lv_at hl 1 rfl) ?_
      obtain ⟨r_5, o_falling_6, o_s_7, o_makes_8, o_works_9, hc, hf⟩ := pb5 hf
      refine gCi (va_runV (As := [.int l1]) (rest := []) hF (kX5_lacksIn l dC dI Z cC cI cZ cW a_o a_o_text a_o_need a_o_made a_o_skillTold a_o_placeTold a_o_skips a_o_wheelTold a_o_tunes a_o_s a_o_spare a_o_kept a_o_isKept a_o_makes a_o_works a_o_order _ o_thrown o_trace o_typed o_next o_token o_place o_value o_fault o_trades o_people o_draftTrades o_draftPeople o_isShut o_falling o_need o_made o_skips o_tunes o_s_2 o_makes o_works l1 N r_5 o_falling_6 o_s_7 o_makes_8 o_works_9 hc) (cwV 1 hts gX5_best_X5_lacksIn rfl rfl rfl (by decide +kernel) ⟨Nat.le_of_ble_eq_true rfl, Nat.le_of_ble_eq_true rfl⟩) (gPV (wc := [(a_o, .inr (5, [.int o_thrown, .long o_trace, .ref a_o_text, .int o_typed, .int o_next, .int o_token, .int o_place, .int o_value, .int o_fault, .ref a_o_need, .ref a_o_made, .ref a_o_skillTold, .ref a_o_placeTold, .ref a_o_skips, .ref a_o_wheelTold, .int o_trades, .int o_people, .int o_draftTrades, .int o_draftPeople, .int o_isShut, .ref a_o_tunes, .ref a_o_s, .ref a_o_spare, .ref a_o_kept, .ref a_o_isKept, .ref a_o_makes, .ref a_o_works, .ref a_o_order, .int o_falling])), (a_o_need, .inl (cI, 12, .inl o_need)), (a_o_made, .inl (cI, 12, .inl o_made)), (a_o_skips, .inl (cI, 12, .inl o_skips)), (a_o_tunes, .inl (cI, 3, .inl o_tunes)), (a_o_s, .inl (cI, 105, .inl o_s_2)), (a_o_makes, .inl (cI, 6, .inl o_makes)), (a_o_works, .inl (cI, 6, .inl o_works))]) hK hN hA hS hP hD [0, 1, 2, 3, 4, 5, 7, 8] rfl rfl (q0 := 0) (ci := 5) rfl rfl rfl) rfl rfl hl.1 rfl (lv_room (Nat.le_of_ble_eq_true rfl)) dX5_best_130 ⟨Nat.zero_le _, Nat.zero_le _⟩) hP hD hS hA [0, 1, 2, 3, 4, 5, 7, 8] rfl rfl rfl (fun H locs hP hD hS => ?_)
      have hP : va_P (dC, dI) vwCl [(a_o, .inr (5, [.int o_thrown, .long o_trace, .ref a_o_text, .int o_typed, .int o_next, .int o_token, .int o_place, .int o_value, .int o_fault, .ref a_o_need, .ref a_o_made, .ref a_o_skillTold, .ref a_o_placeTold, .ref a_o_skips, .ref a_o_wheelTold, .int o_trades, .int o_people, .int o_draftTrades, .int o_draftPeople, .int o_isShut, .ref a_o_tunes, .ref a_o_s, .ref a_o_spare, .ref a_o_kept, .ref a_o_isKept, .ref a_o_makes, .ref a_o_works, .ref a_o_order, .int o_falling_6])), (a_o_need, .inl (cI, 12, .inl o_need)), (a_o_made, .inl (cI, 12, .inl o_made)), (a_o_skips, .inl (cI, 12, .inl o_skips)), (a_o_tunes, .inl (cI, 3, .inl o_tunes)), (a_o_s, .inl (cI, 105, .inl o_s_7)), (a_o_spare, .inl (cI, 105, .inl o_spare)), (a_o_makes, .inl (cI, 6, .inl o_makes_8)), (a_o_works, .inl (cI, 6, .inl o_works_9)), (a_o_order, .inl (cI, 6, .inl o_order))] H := hP
      have hD : va_D A [(a_o, .inr (5, [.int o_thrown, .long o_trace, .ref a_o_text, .int o_typed, .int o_next, .int o_token, .int o_place, .int o_value, .int o_fault, .ref a_o_need, .ref a_o_made, .ref a_o_skillTold, .ref a_o_placeTold, .ref a_o_skips, .ref a_o_wheelTold, .int o_trades, .int o_people, .int o_draftTrades, .int o_draftPeople, .int o_isShut, .ref a_o_tunes, .ref a_o_s, .ref a_o_spare, .ref a_o_kept, .ref a_o_isKept, .ref a_o_makes, .ref a_o_works, .ref a_o_order, .int o_falling_6])), (a_o_need, .inl (cI, 12, .inl o_need)), (a_o_made, .inl (cI, 12, .inl o_made)), (a_o_skips, .inl (cI, 12, .inl o_skips)), (a_o_tunes, .inl (cI, 3, .inl o_tunes)), (a_o_s, .inl (cI, 105, .inl o_s_7)), (a_o_spare, .inl (cI, 105, .inl o_spare)), (a_o_makes, .inl (cI, 6, .inl o_makes_8)), (a_o_works, .inl (cI, 6, .inl o_works_9)), (a_o_order, .inl (cI, 6, .inl o_order))] := hD
      refine lv_istore (lv' := [(7, .int r_5), (0, .ref a_o), (1, .int l1), (2, .int l2), (3, .int l3), (4, .int l4), (6, .int l6_3)]) hx hb dX5_best_133 hl (by decide) rfl (fun ls hl => ?_)
      refine lv_iload_n hx hb dX5_best_135 rfl (lv_at hl 4 rfl) ?_
      refine lv_bipush (v := (-9 : Int32)) hx hb dX5_best_136 (by decide) ?_
      refine lv_icmp_eq (tgt := 148) hx hb dX5_best_138 (by decide) (fun c_10 => ?_) (fun c_10 => ?_)
      · have hf := pit hf c_10
        refine lv_iload hx hb dX5_best_148 (lv_at hl 6 rfl) ?_
        refine lv_istore_n (lv' := [(3, .int l6_3), (7, .int r_5), (0, .ref a_o), (1, .int l1), (2, .int l2), (4, .int l4), (6, .int l6_3)]) hx hb dX5_best_150 rfl hl (by decide) rfl (fun ls hl => ?_)
        refine lv_iload hx hb dX5_best_151 (lv_at hl 1 rfl) ?_
        refine lv_istore (lv' := [(4, .int r_5), (3, .int l6_3), (7, .int r_5), (0, .ref a_o), (1, .int l1), (2, .int l2), (6, .int l6_3)]) hx hb dX5_best_153 hl (by decide) rfl (fun ls hl => ?_)
        refine lv_aload_n hx hb dX5_best_155 rfl (lv_at hl 3 rfl) ?_
        refine lv_iconst (v := (0 : Int32)) hx hb dX5_best_156 (by decide) ?_
        obtain ⟨o_s_11, o_spare_12, hc, hf⟩ := pb2 hf
        refine gCv (va_runV (As := [.int (0 : Int32)]) (rest := []) hF (kX5_aside l dC dI Z cC cI cZ cW a_o a_o_text a_o_need a_o_made a_o_skillTold a_o_placeTold a_o_skips a_o_wheelTold a_o_tunes a_o_s a_o_spare a_o_kept a_o_isKept a_o_makes a_o_works a_o_order _ o_thrown o_trace o_typed o_next o_token o_place o_value o_fault o_trades o_people o_draftTrades o_draftPeople o_isShut o_falling_6 o_s_7 o_spare (0 : Int32) N o_s_11 o_spare_12 hc) (cwV 1 hts gX5_best_X5_aside rfl rfl rfl (by decide +kernel) ⟨Nat.le_of_ble_eq_true rfl, Nat.le_of_ble_eq_true rfl⟩) (gPV (wc := [(a_o, .inr (5, [.int o_thrown, .long o_trace, .ref a_o_text, .int o_typed, .int o_next, .int o_token, .int o_place, .int o_value, .int o_fault, .ref a_o_need, .ref a_o_made, .ref a_o_skillTold, .ref a_o_placeTold, .ref a_o_skips, .ref a_o_wheelTold, .int o_trades, .int o_people, .int o_draftTrades, .int o_draftPeople, .int o_isShut, .ref a_o_tunes, .ref a_o_s, .ref a_o_spare, .ref a_o_kept, .ref a_o_isKept, .ref a_o_makes, .ref a_o_works, .ref a_o_order, .int o_falling_6])), (a_o_s, .inl (cI, 105, .inl o_s_7)), (a_o_spare, .inl (cI, 105, .inl o_spare))]) hK hN hA hS hP hD [0, 5, 6] rfl rfl (q0 := 0) (ci := 5) rfl rfl rfl) rfl rfl hl.1 rfl (lv_room (Nat.le_of_ble_eq_true rfl)) dX5_best_157 ⟨Nat.zero_le _, Nat.zero_le _⟩) hP hD hS hA [0, 5, 6] rfl rfl rfl (fun H locs hP hD hS => ?_)
        have hP : va_P (dC, dI) vwCl [(a_o, .inr (5, [.int o_thrown, .long o_trace, .ref a_o_text, .int o_typed, .int o_next, .int o_token, .int o_place, .int o_value, .int o_fault, .ref a_o_need, .ref a_o_made, .ref a_o_skillTold, .ref a_o_placeTold, .ref a_o_skips, .ref a_o_wheelTold, .int o_trades, .int o_people, .int o_draftTrades, .int o_draftPeople, .int o_isShut, .ref a_o_tunes, .ref a_o_s, .ref a_o_spare, .ref a_o_kept, .ref a_o_isKept, .ref a_o_makes, .ref a_o_works, .ref a_o_order, .int o_falling_6])), (a_o_need, .inl (cI, 12, .inl o_need)), (a_o_made, .inl (cI, 12, .inl o_made)), (a_o_skips, .inl (cI, 12, .inl o_skips)), (a_o_tunes, .inl (cI, 3, .inl o_tunes)), (a_o_s, .inl (cI, 105, .inl o_s_11)), (a_o_spare, .inl (cI, 105, .inl o_spare_12)), (a_o_makes, .inl (cI, 6, .inl o_makes_8)), (a_o_works, .inl (cI, 6, .inl o_works_9)), (a_o_order, .inl (cI, 6, .inl o_order))] H := hP
        have hD : va_D A [(a_o, .inr (5, [.int o_thrown, .long o_trace, .ref a_o_text, .int o_typed, .int o_next, .int o_token, .int o_place, .int o_value, .int o_fault, .ref a_o_need, .ref a_o_made, .ref a_o_skillTold, .ref a_o_placeTold, .ref a_o_skips, .ref a_o_wheelTold, .int o_trades, .int o_people, .int o_draftTrades, .int o_draftPeople, .int o_isShut, .ref a_o_tunes, .ref a_o_s, .ref a_o_spare, .ref a_o_kept, .ref a_o_isKept, .ref a_o_makes, .ref a_o_works, .ref a_o_order, .int o_falling_6])), (a_o_need, .inl (cI, 12, .inl o_need)), (a_o_made, .inl (cI, 12, .inl o_made)), (a_o_skips, .inl (cI, 12, .inl o_skips)), (a_o_tunes, .inl (cI, 3, .inl o_tunes)), (a_o_s, .inl (cI, 105, .inl o_s_11)), (a_o_spare, .inl (cI, 105, .inl o_spare_12)), (a_o_makes, .inl (cI, 6, .inl o_makes_8)), (a_o_works, .inl (cI, 6, .inl o_works_9)), (a_o_order, .inl (cI, 6, .inl o_order))] := hD
        refine lv_aload_n hx hb dX5_best_160 rfl (lv_at hl 3 rfl) ?_
        obtain ⟨r_13, o_order_14, hc, hf⟩ := pb2 hf
        refine gCi (va_runV (As := []) (rest := []) hF (kX5_goesOn l dC dI Z cC cI cZ cW a_o a_o_text a_o_need a_o_made a_o_skillTold a_o_placeTold a_o_skips a_o_wheelTold a_o_tunes a_o_s a_o_spare a_o_kept a_o_isKept a_o_makes a_o_works a_o_order _ o_thrown o_trace o_typed o_next o_token o_place o_value o_fault o_trades o_people o_draftTrades o_draftPeople o_isShut o_falling_6 o_order  N r_13 o_order_14 hc) (cwV 0 hts gX5_best_X5_goesOn rfl rfl rfl (by decide +kernel) ⟨Nat.le_of_ble_eq_true rfl, Nat.le_of_ble_eq_true rfl⟩) (gPV (wc := [(a_o, .inr (5, [.int o_thrown, .long o_trace, .ref a_o_text, .int o_typed, .int o_next, .int o_token, .int o_place, .int o_value, .int o_fault, .ref a_o_need, .ref a_o_made, .ref a_o_skillTold, .ref a_o_placeTold, .ref a_o_skips, .ref a_o_wheelTold, .int o_trades, .int o_people, .int o_draftTrades, .int o_draftPeople, .int o_isShut, .ref a_o_tunes, .ref a_o_s, .ref a_o_spare, .ref a_o_kept, .ref a_o_isKept, .ref a_o_makes, .ref a_o_works, .ref a_o_order, .int o_falling_6])), (a_o_order, .inl (cI, 6, .inl o_order))]) hK hN hA hS hP hD [0, 9] rfl rfl (q0 := 0) (ci := 5) rfl rfl rfl) rfl rfl hl.1 rfl (lv_room (Nat.le_of_ble_eq_true rfl)) dX5_best_161 ⟨Nat.zero_le _, Nat.zero_le _⟩) hP hD hS hA [0, 9] rfl rfl rfl (fun H locs hP hD hS => ?_)
        have hP : va_P (dC, dI) vwCl [(a_o, .inr (5, [.int o_thrown, .long o_trace, .ref a_o_text, .int o_typed, .int o_next, .int o_token, .int o_place, .int o_value, .int o_fault, .ref a_o_need, .ref a_o_made, .ref a_o_skillTold, .ref a_o_placeTold, .ref a_o_skips, .ref a_o_wheelTold, .int o_trades, .int o_people, .int o_draftTrades, .int o_draftPeople, .int o_isShut, .ref a_o_tunes, .ref a_o_s, .ref a_o_spare, .ref a_o_kept, .ref a_o_isKept, .ref a_o_makes, .ref a_o_works, .ref a_o_order, .int o_falling_6])), (a_o_need, .inl (cI, 12, .inl o_need)), (a_o_made, .inl (cI, 12, .inl o_made)), (a_o_skips, .inl (cI, 12, .inl o_skips)), (a_o_tunes, .inl (cI, 3, .inl o_tunes)), (a_o_s, .inl (cI, 105, .inl o_s_11)), (a_o_spare, .inl (cI, 105, .inl o_spare_12)), (a_o_makes, .inl (cI, 6, .inl o_makes_8)), (a_o_works, .inl (cI, 6, .inl o_works_9)), (a_o_order, .inl (cI, 6, .inl o_order_14))] H := hP
        have hD : va_D A [(a_o, .inr (5, [.int o_thrown, .long o_trace, .ref a_o_text, .int o_typed, .int o_next, .int o_token, .int o_place, .int o_value, .int o_fault, .ref a_o_need, .ref a_o_made, .ref a_o_skillTold, .ref a_o_placeTold, .ref a_o_skips, .ref a_o_wheelTold, .int o_trades, .int o_people, .int o_draftTrades, .int o_draftPeople, .int o_isShut, .ref a_o_tunes, .ref a_o_s, .ref a_o_spare, .ref a_o_kept, .ref a_o_isKept, .ref a_o_makes, .ref a_o_works, .ref a_o_order, .int o_falling_6])), (a_o_need, .inl (cI, 12, .inl o_need)), (a_o_made, .inl (cI, 12, .inl o_made)), (a_o_skips, .inl (cI, 12, .inl o_skips)), (a_o_tunes, .inl (cI, 3, .inl o_tunes)), (a_o_s, .inl (cI, 105, .inl o_s_11)), (a_o_spare, .inl (cI, 105, .inl o_spare_12)), (a_o_makes, .inl (cI, 6, .inl o_makes_8)), (a_o_works, .inl (cI, 6, .inl o_works_9)), (a_o_order, .inl (cI, 6, .inl o_order_14))] := hD
        refine lv_istore (lv' := [(5, .int r_13), (4, .int r_5), (3, .int l6_3), (7, .int r_5), (0, .ref a_o), (1, .int l1), (2, .int l2), (6, .int l6_3)]) hx hb dX5_best_164 hl (by decide) rfl (fun ls hl => ?_)
        refine lv_goto (tgt := 70) hx hb dX5_best_166 (by decide) ?_
        exact ih _ _ _ _ _ _ _ _ _ _ _ _ _ _ _ _ _ _ hf _ _ _ hP hD hS (lv_sub hl [4, 5, 6, 2, 1, 0] rfl) kx
      · have hf := pif hf c_10
        refine lv_iload hx hb dX5_best_141 (lv_at hl 0 rfl) ?_
        refine lv_iload hx hb dX5_best_143 (lv_at hl 5 rfl) ?_
        refine lv_icmp_ge (tgt := 155) hx hb dX5_best_145 (by decide) (fun c_15 => ?_) (fun c_15 => ?_)
        · have hf := pit hf c_15
          refine lv_aload_n hx hb dX5_best_155 rfl (lv_at hl 1 rfl) ?_
          refine lv_iconst (v := (0 : Int32)) hx hb dX5_best_156 (by decide) ?_
          obtain ⟨o_s_16, o_spare_17, hc, hf⟩ := pb2 hf
          refine gCv (va_runV (As := [.int (0 : Int32)]) (rest := []) hF (kX5_aside l dC dI Z cC cI cZ cW a_o a_o_text a_o_need a_o_made a_o_skillTold a_o_placeTold a_o_skips a_o_wheelTold a_o_tunes a_o_s a_o_spare a_o_kept a_o_isKept a_o_makes a_o_works a_o_order _ o_thrown o_trace o_typed o_next o_token o_place o_value o_fault o_trades o_people o_draftTrades o_draftPeople o_isShut o_falling_6 o_s_7 o_spare (0 : Int32) N o_s_16 o_spare_17 hc) (cwV 1 hts gX5_best_X5_aside rfl rfl rfl (by decide +kernel) ⟨Nat.le_of_ble_eq_true rfl, Nat.le_of_ble_eq_true rfl⟩) (gPV (wc := [(a_o, .inr (5, [.int o_thrown, .long o_trace, .ref a_o_text, .int o_typed, .int o_next, .int o_token, .int o_place, .int o_value, .int o_fault, .ref a_o_need, .ref a_o_made, .ref a_o_skillTold, .ref a_o_placeTold, .ref a_o_skips, .ref a_o_wheelTold, .int o_trades, .int o_people, .int o_draftTrades, .int o_draftPeople, .int o_isShut, .ref a_o_tunes, .ref a_o_s, .ref a_o_spare, .ref a_o_kept, .ref a_o_isKept, .ref a_o_makes, .ref a_o_works, .ref a_o_order, .int o_falling_6])), (a_o_s, .inl (cI, 105, .inl o_s_7)), (a_o_spare, .inl (cI, 105, .inl o_spare))]) hK hN hA hS hP hD [0, 5, 6] rfl rfl (q0 := 0) (ci := 5) rfl rfl rfl) rfl rfl hl.1 rfl (lv_room (Nat.le_of_ble_eq_true rfl)) dX5_best_157 ⟨Nat.zero_le _, Nat.zero_le _⟩) hP hD hS hA [0, 5, 6] rfl rfl rfl (fun H locs hP hD hS => ?_)
          have hP : va_P (dC, dI) vwCl [(a_o, .inr (5, [.int o_thrown, .long o_trace, .ref a_o_text, .int o_typed, .int o_next, .int o_token, .int o_place, .int o_value, .int o_fault, .ref a_o_need, .ref a_o_made, .ref a_o_skillTold, .ref a_o_placeTold, .ref a_o_skips, .ref a_o_wheelTold, .int o_trades, .int o_people, .int o_draftTrades, .int o_draftPeople, .int o_isShut, .ref a_o_tunes, .ref a_o_s, .ref a_o_spare, .ref a_o_kept, .ref a_o_isKept, .ref a_o_makes, .ref a_o_works, .ref a_o_order, .int o_falling_6])), (a_o_need, .inl (cI, 12, .inl o_need)), (a_o_made, .inl (cI, 12, .inl o_made)), (a_o_skips, .inl (cI, 12, .inl o_skips)), (a_o_tunes, .inl (cI, 3, .inl o_tunes)), (a_o_s, .inl (cI, 105, .inl o_s_16)), (a_o_spare, .inl (cI, 105, .inl o_spare_17)), (a_o_makes, .inl (cI, 6, .inl o_makes_8)), (a_o_works, .inl (cI, 6, .inl o_works_9)), (a_o_order, .inl (cI, 6, .inl o_order))] H := hP
          have hD : va_D A [(a_o, .inr (5, [.int o_thrown, .long o_trace, .ref a_o_text, .int o_typed, .int o_next, .int o_token, .int o_place, .int o_value, .int o_fault, .ref a_o_need, .ref a_o_made, .ref a_o_skillTold, .ref a_o_placeTold, .ref a_o_skips, .ref a_o_wheelTold, .int o_trades, .int o_people, .int o_draftTrades, .int o_draftPeople, .int o_isShut, .ref a_o_tunes, .ref a_o_s, .ref a_o_spare, .ref a_o_kept, .ref a_o_isKept, .ref a_o_makes, .ref a_o_works, .ref a_o_order, .int o_falling_6])), (a_o_need, .inl (cI, 12, .inl o_need)), (a_o_made, .inl (cI, 12, .inl o_made)), (a_o_skips, .inl (cI, 12, .inl o_skips)), (a_o_tunes, .inl (cI, 3, .inl o_tunes)), (a_o_s, .inl (cI, 105, .inl o_s_16)), (a_o_spare, .inl (cI, 105, .inl o_spare_17)), (a_o_makes, .inl (cI, 6, .inl o_makes_8)), (a_o_works, .inl (cI, 6, .inl o_works_9)), (a_o_order, .inl (cI, 6, .inl o_order))] := hD
          refine lv_aload_n hx hb dX5_best_160 rfl (lv_at hl 1 rfl) ?_
          obtain ⟨r_18, o_order_19, hc, hf⟩ := pb2 hf
          refine gCi (va_runV (As := []) (rest := []) hF (kX5_goesOn l dC dI Z cC cI cZ cW a_o a_o_text a_o_need a_o_made a_o_skillTold a_o_placeTold a_o_skips a_o_wheelTold a_o_tunes a_o_s a_o_spare a_o_kept a_o_isKept a_o_makes a_o_works a_o_order _ o_thrown o_trace o_typed o_next o_token o_place o_value o_fault o_trades o_people o_draftTrades o_draftPeople o_isShut o_falling_6 o_order  N r_18 o_order_19 hc) (cwV 0 hts gX5_best_X5_goesOn rfl rfl rfl (by decide +kernel) ⟨Nat.le_of_ble_eq_true rfl, Nat.le_of_ble_eq_true rfl⟩) (gPV (wc := [(a_o, .inr (5, [.int o_thrown, .long o_trace, .ref a_o_text, .int o_typed, .int o_next, .int o_token, .int o_place, .int o_value, .int o_fault, .ref a_o_need, .ref a_o_made, .ref a_o_skillTold, .ref a_o_placeTold, .ref a_o_skips, .ref a_o_wheelTold, .int o_trades, .int o_people, .int o_draftTrades, .int o_draftPeople, .int o_isShut, .ref a_o_tunes, .ref a_o_s, .ref a_o_spare, .ref a_o_kept, .ref a_o_isKept, .ref a_o_makes, .ref a_o_works, .ref a_o_order, .int o_falling_6])), (a_o_order, .inl (cI, 6, .inl o_order))]) hK hN hA hS hP hD [0, 9] rfl rfl (q0 := 0) (ci := 5) rfl rfl rfl) rfl rfl hl.1 rfl (lv_room (Nat.le_of_ble_eq_true rfl)) dX5_best_161 ⟨Nat.zero_le _, Nat.zero_le _⟩) hP hD hS hA [0, 9] rfl rfl rfl (fun H locs hP hD hS => ?_)
          have hP : va_P (dC, dI) vwCl [(a_o, .inr (5, [.int o_thrown, .long o_trace, .ref a_o_text, .int o_typed, .int o_next, .int o_token, .int o_place, .int o_value, .int o_fault, .ref a_o_need, .ref a_o_made, .ref a_o_skillTold, .ref a_o_placeTold, .ref a_o_skips, .ref a_o_wheelTold, .int o_trades, .int o_people, .int o_draftTrades, .int o_draftPeople, .int o_isShut, .ref a_o_tunes, .ref a_o_s, .ref a_o_spare, .ref a_o_kept, .ref a_o_isKept, .ref a_o_makes, .ref a_o_works, .ref a_o_order, .int o_falling_6])), (a_o_need, .inl (cI, 12, .inl o_need)), (a_o_made, .inl (cI, 12, .inl o_made)), (a_o_skips, .inl (cI, 12, .inl o_skips)), (a_o_tunes, .inl (cI, 3, .inl o_tunes)), (a_o_s, .inl (cI, 105, .inl o_s_16)), (a_o_spare, .inl (cI, 105, .inl o_spare_17)), (a_o_makes, .inl (cI, 6, .inl o_makes_8)), (a_o_works, .inl (cI, 6, .inl o_works_9)), (a_o_order, .inl (cI, 6, .inl o_order_19))] H := hP
          have hD : va_D A [(a_o, .inr (5, [.int o_thrown, .long o_trace, .ref a_o_text, .int o_typed, .int o_next, .int o_token, .int o_place, .int o_value, .int o_fault, .ref a_o_need, .ref a_o_made, .ref a_o_skillTold, .ref a_o_placeTold, .ref a_o_skips, .ref a_o_wheelTold, .int o_trades, .int o_people, .int o_draftTrades, .int o_draftPeople, .int o_isShut, .ref a_o_tunes, .ref a_o_s, .ref a_o_spare, .ref a_o_kept, .ref a_o_isKept, .ref a_o_makes, .ref a_o_works, .ref a_o_order, .int o_falling_6])), (a_o_need, .inl (cI, 12, .inl o_need)), (a_o_made, .inl (cI, 12, .inl o_made)), (a_o_skips, .inl (cI, 12, .inl o_skips)), (a_o_tunes, .inl (cI, 3, .inl o_tunes)), (a_o_s, .inl (cI, 105, .inl o_s_16)), (a_o_spare, .inl (cI, 105, .inl o_spare_17)), (a_o_makes, .inl (cI, 6, .inl o_makes_8)), (a_o_works, .inl (cI, 6, .inl o_works_9)), (a_o_order, .inl (cI, 6, .inl o_order_19))] := hD
          refine lv_istore (lv' := [(5, .int r_18), (7, .int r_5), (0, .ref a_o), (1, .int l1), (2, .int l2), (3, .int l3), (4, .int l4), (6, .int l6_3)]) hx hb dX5_best_164 hl (by decide) rfl (fun ls hl => ?_)
          refine lv_goto (tgt := 70) hx hb dX5_best_166 (by decide) ?_
          exact ih _ _ _ _ _ _ _ _ _ _ _ _ _ _ _ _ _ _ hf _ _ _ hP hD hS (lv_sub hl [2, 3, 4, 5, 6, 0] rfl) kx
        · have hf := pif hf c_15
          refine lv_iload hx hb dX5_best_148 (lv_at hl 6 rfl) ?_
          refine lv_istore_n (lv' := [(3, .int l6_3), (7, .int r_5), (0, .ref a_o), (1, .int l1), (2, .int l2), (4, .int l4), (6, .int l6_3)]) hx hb dX5_best_150 rfl hl (by decide) rfl (fun ls hl => ?_)
          refine lv_iload hx hb dX5_best_151 (lv_at hl 1 rfl) ?_
          refine lv_istore (lv' := [(4, .int r_5), (3, .int l6_3), (7, .int r_5), (0, .ref a_o), (1, .int l1), (2, .int l2), (6, .int l6_3)]) hx hb dX5_best_153 hl (by decide) rfl (fun ls hl => ?_)
          refine lv_aload_n hx hb dX5_best_155 rfl (lv_at hl 3 rfl) ?_
          refine lv_iconst (v := (0 : Int32)) hx hb dX5_best_156 (by decide) ?_
          obtain ⟨o_s_20, o_spare_21, hc, hf⟩ := pb2 hf
          refine gCv (va_runV (As := [.int (0 : Int32)]) (rest := []) hF (kX5_aside l dC dI Z cC cI cZ cW a_o a_o_text a_o_need a_o_made a_o_skillTold a_o_placeTold a_o_skips a_o_wheelTold a_o_tunes a_o_s a_o_spare a_o_kept a_o_isKept a_o_makes a_o_works a_o_order _ o_thrown o_trace o_typed o_next o_token o_place o_value o_fault o_trades o_people o_draftTrades o_draftPeople o_isShut o_falling_6 o_s_7 o_spare (0 : Int32) N o_s_20 o_spare_21 hc) (cwV 1 hts gX5_best_X5_aside rfl rfl rfl (by decide +kernel) ⟨Nat.le_of_ble_eq_true rfl, Nat.le_of_ble_eq_true rfl⟩) (gPV (wc := [(a_o, .inr (5, [.int o_thrown, .long o_trace, .ref a_o_text, .int o_typed, .int o_next, .int o_token, .int o_place, .int o_value, .int o_fault, .ref a_o_need, .ref a_o_made, .ref a_o_skillTold, .ref a_o_placeTold, .ref a_o_skips, .ref a_o_wheelTold, .int o_trades, .int o_people, .int o_draftTrades, .int o_draftPeople, .int o_isShut, .ref a_o_tunes, .ref a_o_s, .ref a_o_spare, .ref a_o_kept, .ref a_o_isKept, .ref a_o_makes, .ref a_o_works, .ref a_o_order, .int o_falling_6])), (a_o_s, .inl (cI, 105, .inl o_s_7)), (a_o_spare, .inl (cI, 105, .inl o_spare))]) hK hN hA hS hP hD [0, 5, 6] rfl rfl (q0 := 0) (ci := 5) rfl rfl rfl) rfl rfl hl.1 rfl (lv_room (Nat.le_of_ble_eq_true rfl)) dX5_best_157 ⟨Nat.zero_le _, Nat.zero_le _⟩) hP hD hS hA [0, 5, 6] rfl rfl rfl (fun H locs hP hD hS => ?_)
          have hP : va_P (dC, dI) vwCl [(a_o, .inr (5, [.int o_thrown, .long o_trace, .ref a_o_text, .int o_typed, .int o_next, .int o_token, .int o_place, .int o_value, .int o_fault, .ref a_o_need, .ref a_o_made, .ref a_o_skillTold, .ref a_o_placeTold, .ref a_o_skips, .ref a_o_wheelTold, .int o_trades, .int o_people, .int o_draftTrades, .int o_draftPeople, .int o_isShut, .ref a_o_tunes, .ref a_o_s, .ref a_o_spare, .ref a_o_kept, .ref a_o_isKept, .ref a_o_makes, .ref a_o_works, .ref a_o_order, .int o_falling_6])), (a_o_need, .inl (cI, 12, .inl o_need)), (a_o_made, .inl (cI, 12, .inl o_made)), (a_o_skips, .inl (cI, 12, .inl o_skips)), (a_o_tunes, .inl (cI, 3, .inl o_tunes)), (a_o_s, .inl (cI, 105, .inl o_s_20)), (a_o_spare, .inl (cI, 105, .inl o_spare_21)), (a_o_makes, .inl (cI, 6, .inl o_makes_8)), (a_o_works, .inl (cI, 6, .inl o_works_9)), (a_o_order, .inl (cI, 6, .inl o_order))] H := hP
          have hD : va_D A [(a_o, .inr (5, [.int o_thrown, .long o_trace, .ref a_o_text, .int o_typed, .int o_next, .int o_token, .int o_place, .int o_value, .int o_fault, .ref a_o_need, .ref a_o_made, .ref a_o_skillTold, .ref a_o_placeTold, .ref a_o_skips, .ref a_o_wheelTold, .int o_trades, .int o_people, .int o_draftTrades, .int o_draftPeople, .int o_isShut, .ref a_o_tunes, .ref a_o_s, .ref a_o_spare, .ref a_o_kept, .ref a_o_isKept, .ref a_o_makes, .ref a_o_works, .ref a_o_order, .int o_falling_6])), (a_o_need, .inl (cI, 12, .inl o_need)), (a_o_made, .inl (cI, 12, .inl o_made)), (a_o_skips, .inl (cI, 12, .inl o_skips)), (a_o_tunes, .inl (cI, 3, .inl o_tunes)), (a_o_s, .inl (cI, 105, .inl o_s_20)), (a_o_spare, .inl (cI, 105, .inl o_spare_21)), (a_o_makes, .inl (cI, 6, .inl o_makes_8)), (a_o_works, .inl (cI, 6, .inl o_works_9)), (a_o_order, .inl (cI, 6, .inl o_order))] := hD
          refine lv_aload_n hx hb dX5_best_160 rfl (lv_at hl 3 rfl) ?_
          obtain ⟨r_22, o_order_23, hc, hf⟩ := pb2 hf
          refine gCi (va_runV (As := []) (rest := []) hF (kX5_goesOn l dC dI Z cC cI cZ cW a_o a_o_text a_o_need a_o_made a_o_skillTold a_o_placeTold a_o_skips a_o_wheelTold a_o_tunes a_o_s a_o_spare a_o_kept a_o_isKept a_o_makes a_o_works a_o_order _ o_thrown o_trace o_typed o_next o_token o_place o_value o_fault o_trades o_people o_draftTrades o_draftPeople o_isShut o_falling_6 o_order  N r_22 o_order_23 hc) (cwV 0 hts gX5_best_X5_goesOn rfl rfl rfl (by decide +kernel) ⟨Nat.le_of_ble_eq_true rfl, Nat.le_of_ble_eq_true rfl⟩) (gPV (wc := [(a_o, .inr (5, [.int o_thrown, .long o_trace, .ref a_o_text, .int o_typed, .int o_next, .int o_token, .int o_place, .int o_value, .int o_fault, .ref a_o_need, .ref a_o_made, .ref a_o_skillTold, .ref a_o_placeTold, .ref a_o_skips, .ref a_o_wheelTold, .int o_trades, .int o_people, .int o_draftTrades, .int o_draftPeople, .int o_isShut, .ref a_o_tunes, .ref a_o_s, .ref a_o_spare, .ref a_o_kept, .ref a_o_isKept, .ref a_o_makes, .ref a_o_works, .ref a_o_order, .int o_falling_6])), (a_o_order, .inl (cI, 6, .inl o_order))]) hK hN hA hS hP hD [0, 9] rfl rfl (q0 := 0) (ci := 5) rfl rfl rfl) rfl rfl hl.1 rfl (lv_room (Nat.le_of_ble_eq_true rfl)) dX5_best_161 ⟨Nat.zero_le _, Nat.zero_le _⟩) hP hD hS hA [0, 9] rfl rfl rfl (fun H locs hP hD hS => ?_)
          have hP : va_P (dC, dI) vwCl [(a_o, .inr (5, [.int o_thrown, .long o_trace, .ref a_o_text, .int o_typed, .int o_next, .int o_token, .int o_place, .int o_value, .int o_fault, .ref a_o_need, .ref a_o_made, .ref a_o_skillTold, .ref a_o_placeTold, .ref a_o_skips, .ref a_o_wheelTold, .int o_trades, .int o_people, .int o_draftTrades, .int o_draftPeople, .int o_isShut, .ref a_o_tunes, .ref a_o_s, .ref a_o_spare, .ref a_o_kept, .ref a_o_isKept, .ref a_o_makes, .ref a_o_works, .ref a_o_order, .int o_falling_6])), (a_o_need, .inl (cI, 12, .inl o_need)), (a_o_made, .inl (cI, 12, .inl o_made)), (a_o_skips, .inl (cI, 12, .inl o_skips)), (a_o_tunes, .inl (cI, 3, .inl o_tunes)), (a_o_s, .inl (cI, 105, .inl o_s_20)), (a_o_spare, .inl (cI, 105, .inl o_spare_21)), (a_o_makes, .inl (cI, 6, .inl o_makes_8)), (a_o_works, .inl (cI, 6, .inl o_works_9)), (a_o_order, .inl (cI, 6, .inl o_order_23))] H := hP
          have hD : va_D A [(a_o, .inr (5, [.int o_thrown, .long o_trace, .ref a_o_text, .int o_typed, .int o_next, .int o_token, .int o_place, .int o_value, .int o_fault, .ref a_o_need, .ref a_o_made, .ref a_o_skillTold, .ref a_o_placeTold, .ref a_o_skips, .ref a_o_wheelTold, .int o_trades, .int o_people, .int o_draftTrades, .int o_draftPeople, .int o_isShut, .ref a_o_tunes, .ref a_o_s, .ref a_o_spare, .ref a_o_kept, .ref a_o_isKept, .ref a_o_makes, .ref a_o_works, .ref a_o_order, .int o_falling_6])), (a_o_need, .inl (cI, 12, .inl o_need)), (a_o_made, .inl (cI, 12, .inl o_made)), (a_o_skips, .inl (cI, 12, .inl o_skips)), (a_o_tunes, .inl (cI, 3, .inl o_tunes)), (a_o_s, .inl (cI, 105, .inl o_s_20)), (a_o_spare, .inl (cI, 105, .inl o_spare_21)), (a_o_makes, .inl (cI, 6, .inl o_makes_8)), (a_o_works, .inl (cI, 6, .inl o_works_9)), (a_o_order, .inl (cI, 6, .inl o_order_23))] := hD
          refine lv_istore (lv' := [(5, .int r_22), (4, .int r_5), (3, .int l6_3), (7, .int r_5), (0, .ref a_o), (1, .int l1), (2, .int l2), (6, .int l6_3)]) hx hb dX5_best_164 hl (by decide) rfl (fun ls hl => ?_)
          refine lv_goto (tgt := 70) hx hb dX5_best_166 (by decide) ?_
          exact ih _ _ _ _ _ _ _ _ _ _ _ _ _ _ _ _ _ _ hf _ _ _ hP hD hS (lv_sub hl [4, 5, 6, 2, 1, 0] rfl) kx
set_option maxHeartbeats 4000000 in
set_option maxRecDepth 100000 in
theorem kX5_best (l : Launch) (dC : Nat → ClassId) (dI : Nat → Nat → Nat) (Z : gZ) (cC cI cZ cW : ClassId) (a_o a_o_text a_o_need a_o_made a_o_skillTold a_o_placeTold a_o_skips a_o_wheelTold a_o_tunes a_o_s a_o_spare a_o_kept a_o_isKept a_o_makes a_o_works a_o_order : Nat) (sz : Nat) (o_thrown : Int32) (o_trace : Int64) (o_typed : Int32) (o_next : Int32) (o_token : Int32) (o_place : Int32) (o_value : Int32) (o_fault : Int32) (o_trades : Int32) (o_people : Int32) (o_draftTrades : Int32) (o_draftPeople : Int32) (o_isShut : Int32) (o_falling : Int32) (o_need : Nat → Int32) (o_made : Nat → Int32) (o_skips : Nat → Int32) (o_tunes : Nat → Int32) (o_s : Nat → Int32) (o_spare : Nat → Int32) (o_makes : Nat → Int32) (o_works : Nat → Int32) (o_order : Nat → Int32) (i1 : Int32) (i2 : Int32) (N : Nat) (r' : Int32) (o_thrown' : Int32) (o_falling' : Int32) (o_s' : Nat → Int32) (o_spare' : Nat → Int32) (o_makes' : Nat → Int32) (o_works' : Nat → Int32) (o_order' : Nat → Int32) (hf : fX5_best N o_thrown o_trades o_people o_falling o_need o_made o_skips o_tunes o_s o_spare o_makes o_works o_order  i1 i2 = some (r', o_thrown', o_falling', o_s', o_spare', o_makes', o_works', o_order')) : Met l yX5_best wsX5_best rmX5_best (va_Pc [.ref a_o, .int i1, .int i2] (gB (dC, dI) Z [(cC, .char), (cI, .int), (cZ, .boolean), (cW, .object RX3)] [(a_o, .inr (5, [.int o_thrown, .long o_trace, .ref a_o_text, .int o_typed, .int o_next, .int o_token, .int o_place, .int o_value, .int o_fault, .ref a_o_need, .ref a_o_made, .ref a_o_skillTold, .ref a_o_placeTold, .ref a_o_skips, .ref a_o_wheelTold, .int o_trades, .int o_people, .int o_draftTrades, .int o_draftPeople, .int o_isShut, .ref a_o_tunes, .ref a_o_s, .ref a_o_spare, .ref a_o_kept, .ref a_o_isKept, .ref a_o_makes, .ref a_o_works, .ref a_o_order, .int o_falling])), (a_o_need, .inl (cI, 12, .inl o_need)), (a_o_made, .inl (cI, 12, .inl o_made)), (a_o_skips, .inl (cI, 12, .inl o_skips)), (a_o_tunes, .inl (cI, 3, .inl o_tunes)), (a_o_s, .inl (cI, 105, .inl o_s)), (a_o_spare, .inl (cI, 105, .inl o_spare)), (a_o_makes, .inl (cI, 6, .inl o_makes)), (a_o_works, .inl (cI, 6, .inl o_works)), (a_o_order, .inl (cI, 6, .inl o_order))] sz)) (va_Qi (fun (r : Int32) (_ : Unit) => r = r') (gE (dC, dI) [(a_o, .inr (5, [.int o_thrown', .long o_trace, .ref a_o_text, .int o_typed, .int o_next, .int o_token, .int o_place, .int o_value, .int o_fault, .ref a_o_need, .ref a_o_made, .ref a_o_skillTold, .ref a_o_placeTold, .ref a_o_skips, .ref a_o_wheelTold, .int o_trades, .int o_people, .int o_draftTrades, .int o_draftPeople, .int o_isShut, .ref a_o_tunes, .ref a_o_s, .ref a_o_spare, .ref a_o_kept, .ref a_o_isKept, .ref a_o_makes, .ref a_o_works, .ref a_o_order, .int o_falling'])), (a_o_need, .inl (cI, 12, .inl o_need)), (a_o_made, .inl (cI, 12, .inl o_made)), (a_o_skips, .inl (cI, 12, .inl o_skips)), (a_o_tunes, .inl (cI, 3, .inl o_tunes)), (a_o_s, .inl (cI, 105, .inl o_s')), (a_o_spare, .inl (cI, 105, .inl o_spare')), (a_o_makes, .inl (cI, 6, .inl o_makes')), (a_o_works, .inl (cI, 6, .inl o_works')), (a_o_order, .inl (cI, 6, .inl o_order'))]) (va_A [(a_o, .inr (5, [.int o_thrown, .long o_trace, .ref a_o_text, .int o_typed, .int o_next, .int o_token, .int o_place, .int o_value, .int o_fault, .ref a_o_need, .ref a_o_made, .ref a_o_skillTold, .ref a_o_placeTold, .ref a_o_skips, .ref a_o_wheelTold, .int o_trades, .int o_people, .int o_draftTrades, .int o_draftPeople, .int o_isShut, .ref a_o_tunes, .ref a_o_s, .ref a_o_spare, .ref a_o_kept, .ref a_o_isKept, .ref a_o_makes, .ref a_o_works, .ref a_o_order, .int o_falling])), (a_o_need, .inl (cI, 12, .inl o_need)), (a_o_made, .inl (cI, 12, .inl o_made)), (a_o_skips, .inl (cI, 12, .inl o_skips)), (a_o_tunes, .inl (cI, 3, .inl o_tunes)), (a_o_s, .inl (cI, 105, .inl o_s)), (a_o_spare, .inl (cI, 105, .inl o_spare)), (a_o_makes, .inl (cI, 6, .inl o_makes)), (a_o_works, .inl (cI, 6, .inl o_works)), (a_o_order, .inl (cI, 6, .inl o_order))] sz)) 0 0 (va_A [(a_o, .inr (5, [.int o_thrown, .long o_trace, .ref a_o_text, .int o_typed, .int o_next, .int o_token, .int o_place, .int o_value, .int o_fault, .ref a_o_need, .ref a_o_made, .ref a_o_skillTold, .ref a_o_placeTold, .ref a_o_skips, .ref a_o_wheelTold, .int o_trades, .int o_people, .int o_draftTrades, .int o_draftPeople, .int o_isShut, .ref a_o_tunes, .ref a_o_s, .ref a_o_spare, .ref a_o_kept, .ref a_o_isKept, .ref a_o_makes, .ref a_o_works, .ref a_o_order, .int o_falling])), (a_o_need, .inl (cI, 12, .inl o_need)), (a_o_made, .inl (cI, 12, .inl o_made)), (a_o_skips, .inl (cI, 12, .inl o_skips)), (a_o_tunes, .inl (cI, 3, .inl o_tunes)), (a_o_s, .inl (cI, 105, .inl o_s)), (a_o_spare, .inl (cI, 105, .inl o_spare)), (a_o_makes, .inl (cI, 6, .inl o_makes)), (a_o_works, .inl (cI, 6, .inl o_works)), (a_o_order, .inl (cI, 6, .inl o_order))] sz) := by
  refine gMet (cc := cX5_best) (maxL := 8) (ret := (some .int)) (Qc := fun A => va_Qi (fun (r : Int32) (_ : Unit) => r = r') (gE (dC, dI) [(a_o, .inr (5, [.int o_thrown', .long o_trace, .ref a_o_text, .int o_typed, .int o_next, .int o_token, .int o_place, .int o_value, .int o_fault, .ref a_o_need, .ref a_o_made, .ref a_o_skillTold, .ref a_o_placeTold, .ref a_o_skips, .ref a_o_wheelTold, .int o_trades, .int o_people, .int o_draftTrades, .int o_draftPeople, .int o_isShut, .ref a_o_tunes, .ref a_o_s, .ref a_o_spare, .ref a_o_kept, .ref a_o_isKept, .ref a_o_makes, .ref a_o_works, .ref a_o_order, .int o_falling'])), (a_o_need, .inl (cI, 12, .inl o_need)), (a_o_made, .inl (cI, 12, .inl o_made)), (a_o_skips, .inl (cI, 12, .inl o_skips)), (a_o_tunes, .inl (cI, 3, .inl o_tunes)), (a_o_s, .inl (cI, 105, .inl o_s')), (a_o_spare, .inl (cI, 105, .inl o_spare')), (a_o_makes, .inl (cI, 6, .inl o_makes')), (a_o_works, .inl (cI, 6, .inl o_works')), (a_o_order, .inl (cI, 6, .inl o_order'))]) A) (by decide) rfl (Nat.le_of_ble_eq_true rfl) ?_
  intro p e s m below meth c A ls hg0 _ hsz hP hD hS hl
  have hg0 : gX p s m _ meth c cX5_best 8 (some .int) wsX5_best RX5 (dC, dI) Z [(cC, .char), (cI, .int), (cZ, .boolean), (cW, .object RX3)] A := hg0
  obtain ⟨hx, hb, hr, hml, hown, hts, hlocks, hA, hK, hN⟩ := id hg0
  subst hsz
  have hF : CallFix p m c cX5_best 8 s _ wsX5_best RX5 := ⟨hx, hb, hml, hown, hts⟩
  have hl : lv_has ls 8 [(0, .ref a_o), (1, .int i1), (2, .int i2)] := hl
  unfold fX5_best at hf
  refine lv_aload_n hx hb dX5_best_0 rfl (lv_at hl 0 rfl) ?_
  refine lv_iconst (v := (0 : Int32)) hx hb dX5_best_1 (by decide) ?_
  refine va_put (D := (dC, dI)) (ci := 5) (v := .int (0 : Int32)) (ty := .int) (C := RX5) (T := TX5) (N := 29) hx hb hts uX5_best_X5 tyX5 tyX5_ok nmX5 hown hK hP hD hS 0 rfl rfl 0 (by decide) (hts _ mX5_best_0) (fun _ h9 => h9) rfl (by decide +kernel) rfl rfl (Nat.le_of_ble_eq_true rfl) dX5_best_2 (fun H locs hP hD hS => ?_)
  have hP : va_P (dC, dI) vwCl [(a_o, .inr (5, [.int (0 : Int32), .long o_trace, .ref a_o_text, .int o_typed, .int o_next, .int o_token, .int o_place, .int o_value, .int o_fault, .ref a_o_need, .ref a_o_made, .ref a_o_skillTold, .ref a_o_placeTold, .ref a_o_skips, .ref a_o_wheelTold, .int o_trades, .int o_people, .int o_draftTrades, .int o_draftPeople, .int o_isShut, .ref a_o_tunes, .ref a_o_s, .ref a_o_spare, .ref a_o_kept, .ref a_o_isKept, .ref a_o_makes, .ref a_o_works, .ref a_o_order, .int o_falling])), (a_o_need, .inl (cI, 12, .inl o_need)), (a_o_made, .inl (cI, 12, .inl o_made)), (a_o_skips, .inl (cI, 12, .inl o_skips)), (a_o_tunes, .inl (cI, 3, .inl o_tunes)), (a_o_s, .inl (cI, 105, .inl o_s)), (a_o_spare, .inl (cI, 105, .inl o_spare)), (a_o_makes, .inl (cI, 6, .inl o_makes)), (a_o_works, .inl (cI, 6, .inl o_works)), (a_o_order, .inl (cI, 6, .inl o_order))] H := hP
  have hD : va_D A [(a_o, .inr (5, [.int (0 : Int32), .long o_trace, .ref a_o_text, .int o_typed, .int o_next, .int o_token, .int o_place, .int o_value, .int o_fault, .ref a_o_need, .ref a_o_made, .ref a_o_skillTold, .ref a_o_placeTold, .ref a_o_skips, .ref a_o_wheelTold, .int o_trades, .int o_people, .int o_draftTrades, .int o_draftPeople, .int o_isShut, .ref a_o_tunes, .ref a_o_s, .ref a_o_spare, .ref a_o_kept, .ref a_o_isKept, .ref a_o_makes, .ref a_o_works, .ref a_o_order, .int o_falling])), (a_o_need, .inl (cI, 12, .inl o_need)), (a_o_made, .inl (cI, 12, .inl o_made)), (a_o_skips, .inl (cI, 12, .inl o_skips)), (a_o_tunes, .inl (cI, 3, .inl o_tunes)), (a_o_s, .inl (cI, 105, .inl o_s)), (a_o_spare, .inl (cI, 105, .inl o_spare)), (a_o_makes, .inl (cI, 6, .inl o_makes)), (a_o_works, .inl (cI, 6, .inl o_works)), (a_o_order, .inl (cI, 6, .inl o_order))] := hD
  refine lv_iload_n hx hb dX5_best_5 rfl (lv_at hl 1 rfl) ?_
  obtain ⟨r_1, hc, hf⟩ := pb1 hf
  refine gCi (va_runS (As := [.int i1]) (rest := []) hF (kX5_areRounds l dC dI Z cC cI cZ cW  _  i1 N r_1 hc) (cwS 1 hts gX5_best_X5_areRounds rfl rfl rfl (by decide +kernel) ⟨Nat.le_of_ble_eq_true rfl, Nat.le_of_ble_eq_true rfl⟩) (gPS (wc := []) hK hN hA hS hP hD [] rfl rfl) rfl rfl hl.1 rfl (lv_room (Nat.le_of_ble_eq_true rfl)) dX5_best_6 ⟨Nat.zero_le _, Nat.zero_le _⟩) hP hD hS hA [] rfl rfl rfl (fun H locs hP hD hS => ?_)
  have hP : va_P (dC, dI) vwCl [(a_o, .inr (5, [.int (0 : Int32), .long o_trace, .ref a_o_text, .int o_typed, .int o_next, .int o_token, .int o_place, .int o_value, .int o_fault, .ref a_o_need, .ref a_o_made, .ref a_o_skillTold, .ref a_o_placeTold, .ref a_o_skips, .ref a_o_wheelTold, .int o_trades, .int o_people, .int o_draftTrades, .int o_draftPeople, .int o_isShut, .ref a_o_tunes, .ref a_o_s, .ref a_o_spare, .ref a_o_kept, .ref a_o_isKept, .ref a_o_makes, .ref a_o_works, .ref a_o_order, .int o_falling])), (a_o_need, .inl (cI, 12, .inl o_need)), (a_o_made, .inl (cI, 12, .inl o_made)), (a_o_skips, .inl (cI, 12, .inl o_skips)), (a_o_tunes, .inl (cI, 3, .inl o_tunes)), (a_o_s, .inl (cI, 105, .inl o_s)), (a_o_spare, .inl (cI, 105, .inl o_spare)), (a_o_makes, .inl (cI, 6, .inl o_makes)), (a_o_works, .inl (cI, 6, .inl o_works)), (a_o_order, .inl (cI, 6, .inl o_order))] H := hP
  have hD : va_D A [(a_o, .inr (5, [.int (0 : Int32), .long o_trace, .ref a_o_text, .int o_typed, .int o_next, .int o_token, .int o_place, .int o_value, .int o_fault, .ref a_o_need, .ref a_o_made, .ref a_o_skillTold, .ref a_o_placeTold, .ref a_o_skips, .ref a_o_wheelTold, .int o_trades, .int o_people, .int o_draftTrades, .int o_draftPeople, .int o_isShut, .ref a_o_tunes, .ref a_o_s, .ref a_o_spare, .ref a_o_kept, .ref a_o_isKept, .ref a_o_makes, .ref a_o_works, .ref a_o_order, .int o_falling])), (a_o_need, .inl (cI, 12, .inl o_need)), (a_o_made, .inl (cI, 12, .inl o_made)), (a_o_skips, .inl (cI, 12, .inl o_skips)), (a_o_tunes, .inl (cI, 3, .inl o_tunes)), (a_o_s, .inl (cI, 105, .inl o_s)), (a_o_spare, .inl (cI, 105, .inl o_spare)), (a_o_makes, .inl (cI, 6, .inl o_makes)), (a_o_works, .inl (cI, 6, .inl o_works)), (a_o_order, .inl (cI, 6, .inl o_order))] := hD
  refine lv_if_eq (tgt := 21) hx hb dX5_best_9 (by decide) (fun c_2 => ?_) (fun c_2 => ?_)
  · have hf := pit hf c_2
    refine lv_iconst (v := (-1 : Int32)) hx hb dX5_best_21 (by decide) ?_
    have q0 := Option.some.inj hf
    obtain ⟨e0, q1⟩ := Prod.mk.inj q0
    obtain ⟨e1, q2⟩ := Prod.mk.inj q1
    obtain ⟨e2, q3⟩ := Prod.mk.inj q2
    obtain ⟨e3, q4⟩ := Prod.mk.inj q3
    obtain ⟨e4, q5⟩ := Prod.mk.inj q4
    obtain ⟨e5, q6⟩ := Prod.mk.inj q5
    obtain ⟨e6, q7⟩ := Prod.mk.inj q6
    subst e0
    subst e1
    subst e2
    subst e3
    subst e4
    subst e5
    subst e6
    subst q7
    exact gRi hx hb hr hlocks hP hS dX5_best_22
  · have hf := pif hf c_2
    refine lv_iload_n hx hb dX5_best_12 rfl (lv_at hl 2 rfl) ?_
    refine lv_iconst (v := (0 : Int32)) hx hb dX5_best_13 (by decide) ?_
    refine lv_iconst (v := (1 : Int32)) hx hb dX5_best_14 (by decide) ?_
    obtain ⟨r_3, hc, hf⟩ := pb1 hf
    refine gCi (va_runS (As := [.int i2, .int (0 : Int32), .int (1 : Int32)]) (rest := []) hF (kX5_in l dC dI Z cC cI cZ cW  _  i2 (0 : Int32) (1 : Int32) N r_3 hc) (cwS 3 hts gX5_best_X5_in rfl rfl rfl (by decide +kernel) ⟨Nat.le_of_ble_eq_true rfl, Nat.le_of_ble_eq_true rfl⟩) (gPS (wc := []) hK hN hA hS hP hD [] rfl rfl) rfl rfl hl.1 rfl (lv_room (Nat.le_of_ble_eq_true rfl)) dX5_best_15 ⟨Nat.zero_le _, Nat.zero_le _⟩) hP hD hS hA [] rfl rfl rfl (fun H locs hP hD hS => ?_)
    have hP : va_P (dC, dI) vwCl [(a_o, .inr (5, [.int (0 : Int32), .long o_trace, .ref a_o_text, .int o_typed, .int o_next, .int o_token, .int o_place, .int o_value, .int o_fault, .ref a_o_need, .ref a_o_made, .ref a_o_skillTold, .ref a_o_placeTold, .ref a_o_skips, .ref a_o_wheelTold, .int o_trades, .int o_people, .int o_draftTrades, .int o_draftPeople, .int o_isShut, .ref a_o_tunes, .ref a_o_s, .ref a_o_spare, .ref a_o_kept, .ref a_o_isKept, .ref a_o_makes, .ref a_o_works, .ref a_o_order, .int o_falling])), (a_o_need, .inl (cI, 12, .inl o_need)), (a_o_made, .inl (cI, 12, .inl o_made)), (a_o_skips, .inl (cI, 12, .inl o_skips)), (a_o_tunes, .inl (cI, 3, .inl o_tunes)), (a_o_s, .inl (cI, 105, .inl o_s)), (a_o_spare, .inl (cI, 105, .inl o_spare)), (a_o_makes, .inl (cI, 6, .inl o_makes)), (a_o_works, .inl (cI, 6, .inl o_works)), (a_o_order, .inl (cI, 6, .inl o_order))] H := hP
    have hD : va_D A [(a_o, .inr (5, [.int (0 : Int32), .long o_trace, .ref a_o_text, .int o_typed, .int o_next, .int o_token, .int o_place, .int o_value, .int o_fault, .ref a_o_need, .ref a_o_made, .ref a_o_skillTold, .ref a_o_placeTold, .ref a_o_skips, .ref a_o_wheelTold, .int o_trades, .int o_people, .int o_draftTrades, .int o_draftPeople, .int o_isShut, .ref a_o_tunes, .ref a_o_s, .ref a_o_spare, .ref a_o_kept, .ref a_o_isKept, .ref a_o_makes, .ref a_o_works, .ref a_o_order, .int o_falling])), (a_o_need, .inl (cI, 12, .inl o_need)), (a_o_made, .inl (cI, 12, .inl o_made)), (a_o_skips, .inl (cI, 12, .inl o_skips)), (a_o_tunes, .inl (cI, 3, .inl o_tunes)), (a_o_s, .inl (cI, 105, .inl o_s)), (a_o_spare, .inl (cI, 105, .inl o_spare)), (a_o_makes, .inl (cI, 6, .inl o_makes)), (a_o_works, .inl (cI, 6, .inl o_works)), (a_o_order, .inl (cI, 6, .inl o_order))] := hD
    refine lv_if_ne (tgt := 23) hx hb dX5_best_18 (by decide) (fun c_4 => ?_) (fun c_4 => ?_)
    · have hf := pif hf c_4
      refine lv_aload_n hx hb dX5_best_23 rfl (lv_at hl 0 rfl) ?_
      refine va_get (D := (dC, dI)) (ci := 5) (v := .int o_trades) (C := RX5) (T := TX5) (N := 29) hx hb hts uX5_best_X5 hown hK hP 0 rfl rfl 15 (by decide) (hts _ mX5_best_1) (fun _ h9 => h9) rfl dX5_best_24 ?_
      refine lv_if_ne (tgt := 33) hx hb dX5_best_27 (by decide) (fun c_5 => ?_) (fun c_5 => ?_)
      · have hf := pif hf c_5
        refine lv_aload_n hx hb dX5_best_33 rfl (lv_at hl 0 rfl) ?_
        refine lv_iconst (v := (1 : Int32)) hx hb dX5_best_34 (by decide) ?_
        obtain ⟨o_s_6, o_spare_7, hc, hf⟩ := pb2 hf
        refine gCv (va_runV (As := [.int (1 : Int32)]) (rest := []) hF (kX5_aside l dC dI Z cC cI cZ cW a_o a_o_text a_o_need a_o_made a_o_skillTold a_o_placeTold a_o_skips a_o_wheelTold a_o_tunes a_o_s a_o_spare a_o_kept a_o_isKept a_o_makes a_o_works a_o_order _ (0 : Int32) o_trace o_typed o_next o_token o_place o_value o_fault o_trades o_people o_draftTrades o_draftPeople o_isShut o_falling o_s o_spare (1 : Int32) N o_s_6 o_spare_7 hc) (cwV 1 hts gX5_best_X5_aside rfl rfl rfl (by decide +kernel) ⟨Nat.le_of_ble_eq_true rfl, Nat.le_of_ble_eq_true rfl⟩) (gPV (wc := [(a_o, .inr (5, [.int (0 : Int32), .long o_trace, .ref a_o_text, .int o_typed, .int o_next, .int o_token, .int o_place, .int o_value, .int o_fault, .ref a_o_need, .ref a_o_made, .ref a_o_skillTold, .ref a_o_placeTold, .ref a_o_skips, .ref a_o_wheelTold, .int o_trades, .int o_people, .int o_draftTrades, .int o_draftPeople, .int o_isShut, .ref a_o_tunes, .ref a_o_s, .ref a_o_spare, .ref a_o_kept, .ref a_o_isKept, .ref a_o_makes, .ref a_o_works, .ref a_o_order, .int o_falling])), (a_o_s, .inl (cI, 105, .inl o_s)), (a_o_spare, .inl (cI, 105, .inl o_spare))]) hK hN hA hS hP hD [0, 5, 6] rfl rfl (q0 := 0) (ci := 5) rfl rfl rfl) rfl rfl hl.1 rfl (lv_room (Nat.le_of_ble_eq_true rfl)) dX5_best_35 ⟨Nat.zero_le _, Nat.zero_le _⟩) hP hD hS hA [0, 5, 6] rfl rfl rfl (fun H locs hP hD hS => ?_)
        have hP : va_P (dC, dI) vwCl [(a_o, .inr (5, [.int (0 : Int32), .long o_trace, .ref a_o_text, .int o_typed, .int o_next, .int o_token, .int o_place, .int o_value, .int o_fault, .ref a_o_need, .ref a_o_made, .ref a_o_skillTold, .ref a_o_placeTold, .ref a_o_skips, .ref a_o_wheelTold, .int o_trades, .int o_people, .int o_draftTrades, .int o_draftPeople, .int o_isShut, .ref a_o_tunes, .ref a_o_s, .ref a_o_spare, .ref a_o_kept, .ref a_o_isKept, .ref a_o_makes, .ref a_o_works, .ref a_o_order, .int o_falling])), (a_o_need, .inl (cI, 12, .inl o_need)), (a_o_made, .inl (cI, 12, .inl o_made)), (a_o_skips, .inl (cI, 12, .inl o_skips)), (a_o_tunes, .inl (cI, 3, .inl o_tunes)), (a_o_s, .inl (cI, 105, .inl o_s_6)), (a_o_spare, .inl (cI, 105, .inl o_spare_7)), (a_o_makes, .inl (cI, 6, .inl o_makes)), (a_o_works, .inl (cI, 6, .inl o_works)), (a_o_order, .inl (cI, 6, .inl o_order))] H := hP
        have hD : va_D A [(a_o, .inr (5, [.int (0 : Int32), .long o_trace, .ref a_o_text, .int o_typed, .int o_next, .int o_token, .int o_place, .int o_value, .int o_fault, .ref a_o_need, .ref a_o_made, .ref a_o_skillTold, .ref a_o_placeTold, .ref a_o_skips, .ref a_o_wheelTold, .int o_trades, .int o_people, .int o_draftTrades, .int o_draftPeople, .int o_isShut, .ref a_o_tunes, .ref a_o_s, .ref a_o_spare, .ref a_o_kept, .ref a_o_isKept, .ref a_o_makes, .ref a_o_works, .ref a_o_order, .int o_falling])), (a_o_need, .inl (cI, 12, .inl o_need)), (a_o_made, .inl (cI, 12, .inl o_made)), (a_o_skips, .inl (cI, 12, .inl o_skips)), (a_o_tunes, .inl (cI, 3, .inl o_tunes)), (a_o_s, .inl (cI, 105, .inl o_s_6)), (a_o_spare, .inl (cI, 105, .inl o_spare_7)), (a_o_makes, .inl (cI, 6, .inl o_makes)), (a_o_works, .inl (cI, 6, .inl o_works)), (a_o_order, .inl (cI, 6, .inl o_order))] := hD
        refine lv_iconst (v := (0 : Int32)) hx hb dX5_best_38 (by decide) ?_
        refine lv_istore_n (lv' := [(3, .int (0 : Int32)), (0, .ref a_o), (1, .int i1), (2, .int i2)]) hx hb dX5_best_39 rfl hl (by decide) rfl (fun ls hl => ?_)
        obtain ⟨o_order_8, l3_9, hc, hf⟩ := pb2 hf
        refine wX5_best_40 hg0 a_o a_o_text a_o_need a_o_made a_o_skillTold a_o_placeTold a_o_skips a_o_wheelTold a_o_tunes a_o_s a_o_spare a_o_kept a_o_isKept a_o_makes a_o_works a_o_order (0 : Int32) o_trace o_typed o_next o_token o_place o_value o_fault o_trades o_people o_draftTrades o_draftPeople o_isShut o_falling o_need o_made o_skips o_tunes o_s_6 o_spare_7 o_makes o_works i1 i2 N N o_order (0 : Int32) o_order_8 l3_9 hc _ _ _ hP hD hS (lv_sub hl [1, 2, 3, 0] rfl) (fun H locs ls hP hD hS hl => ?_)
        refine lv_bipush (v := (-9 : Int32)) hx hb dX5_best_61 (by decide) ?_
        refine lv_istore_n (lv' := [(3, .int (-9 : Int32)), (0, .ref a_o), (1, .int i1), (2, .int i2)]) hx hb dX5_best_63 rfl hl (by decide) rfl (fun ls hl => ?_)
        refine lv_iconst (v := (0 : Int32)) hx hb dX5_best_64 (by decide) ?_
        refine lv_istore (lv' := [(4, .int (0 : Int32)), (3, .int (-9 : Int32)), (0, .ref a_o), (1, .int i1), (2, .int i2)]) hx hb dX5_best_65 hl (by decide) rfl (fun ls hl => ?_)
        refine lv_iconst (v := (1 : Int32)) hx hb dX5_best_67 (by decide) ?_
        refine lv_istore (lv' := [(5, .int (1 : Int32)), (4, .int (0 : Int32)), (3, .int (-9 : Int32)), (0, .ref a_o), (1, .int i1), (2, .int i2)]) hx hb dX5_best_68 hl (by decide) rfl (fun ls hl => ?_)
        obtain ⟨o_falling_10, o_s_11, o_spare_12, o_makes_13, o_works_14, o_order_15, l3_16, l4_17, l5_18, hc, hf⟩ := pb9 hf
        refine wX5_best_70 hg0 a_o a_o_text a_o_need a_o_made a_o_skillTold a_o_placeTold a_o_skips a_o_wheelTold a_o_tunes a_o_s a_o_spare a_o_kept a_o_isKept a_o_makes a_o_works a_o_order (0 : Int32) o_trace o_typed o_next o_token o_place o_value o_fault o_trades o_people o_draftTrades o_draftPeople o_isShut o_need o_made o_skips o_tunes i1 i2 N N o_falling o_s_6 o_spare_7 o_makes o_works o_order_8 (-9 : Int32) (0 : Int32) (1 : Int32) o_falling_10 o_s_11 o_spare_12 o_makes_13 o_works_14 o_order_15 l3_16 l4_17 l5_18 hc _ _ _ hP hD hS (lv_sub hl [3, 4, 5, 2, 1, 0] rfl) (fun H locs ls hP hD hS hl => ?_)
        refine lv_iload_n hx hb dX5_best_169 rfl (lv_at hl 0 rfl) ?_
        refine lv_if_ne (tgt := 177) hx hb dX5_best_170 (by decide) (fun c_19 => ?_) (fun c_19 => ?_)
        · have hf := pif hf c_19
          refine lv_iload hx hb dX5_best_177 (lv_at hl 2 rfl) ?_
          have q0 := Option.some.inj hf
          obtain ⟨e0, q1⟩ := Prod.mk.inj q0
          obtain ⟨e1, q2⟩ := Prod.mk.inj q1
          obtain ⟨e2, q3⟩ := Prod.mk.inj q2
          obtain ⟨e3, q4⟩ := Prod.mk.inj q3
          obtain ⟨e4, q5⟩ := Prod.mk.inj q4
          obtain ⟨e5, q6⟩ := Prod.mk.inj q5
          obtain ⟨e6, q7⟩ := Prod.mk.inj q6
          subst e0
          subst e1
          subst e2
          subst e3
          subst e4
          subst e5
          subst e6
          subst q7
          exact gRi hx hb hr hlocks hP hS dX5_best_179
        · have hf := pit hf c_19
          refine lv_iload_n hx hb dX5_best_173 rfl (lv_at hl 1 rfl) ?_
          refine lv_goto (tgt := 179) hx hb dX5_best_174 (by decide) ?_
          have q0 := Option.some.inj hf
          obtain ⟨e0, q1⟩ := Prod.mk.inj q0
          obtain ⟨e1, q2⟩ := Prod.mk.inj q1
          obtain ⟨e2, q3⟩ := Prod.mk.inj q2
          obtain ⟨e3, q4⟩ := Prod.mk.inj q3
          obtain ⟨e4, q5⟩ := Prod.mk.inj q4
          obtain ⟨e5, q6⟩ := Prod.mk.inj q5
          obtain ⟨e6, q7⟩ := Prod.mk.inj q6
          subst e0
          subst e1
          subst e2
          subst e3
          subst e4
          subst e5
          subst e6
          subst q7
          exact gRi hx hb hr hlocks hP hS dX5_best_179
      · have hf := pit hf c_5
        refine lv_bipush (v := (-2 : Int32)) hx hb dX5_best_30 (by decide) ?_
        have q0 := Option.some.inj hf
        obtain ⟨e0, q1⟩ := Prod.mk.inj q0
        obtain ⟨e1, q2⟩ := Prod.mk.inj q1
        obtain ⟨e2, q3⟩ := Prod.mk.inj q2
        obtain ⟨e3, q4⟩ := Prod.mk.inj q3
        obtain ⟨e4, q5⟩ := Prod.mk.inj q4
        obtain ⟨e5, q6⟩ := Prod.mk.inj q5
        obtain ⟨e6, q7⟩ := Prod.mk.inj q6
        subst e0
        subst e1
        subst e2
        subst e3
        subst e4
        subst e5
        subst e6
        subst q7
        exact gRi hx hb hr hlocks hP hS dX5_best_32
    · have hf := pit hf c_4
      refine lv_iconst (v := (-1 : Int32)) hx hb dX5_best_21 (by decide) ?_
      have q0 := Option.some.inj hf
      obtain ⟨e0, q1⟩ := Prod.mk.inj q0
      obtain ⟨e1, q2⟩ := Prod.mk.inj q1
      obtain ⟨e2, q3⟩ := Prod.mk.inj q2
      obtain ⟨e3, q4⟩ := Prod.mk.inj q3
      obtain ⟨e4, q5⟩ := Prod.mk.inj q4
      obtain ⟨e5, q6⟩ := Prod.mk.inj q5
      obtain ⟨e6, q7⟩ := Prod.mk.inj q6
      subst e0
      subst e1
      subst e2
      subst e3
      subst e4
      subst e5
      subst e6
      subst q7
      exact gRi hx hb hr hlocks hP hS dX5_best_22
abbrev rmX5_taught : Room := { frames := 5, cells := 0, slots := 0, locals := 117 }
set_option maxRecDepth 20000 in
theorem uX5_taught_X5 : ∀ w ∈ wsX50, w ∈ wsX5_taught := by decide +kernel
set_option maxRecDepth 20000 in
theorem mX5_taught_0 : (Cond.fieldLink RX5 59 "TradeWheelModel" "thrown" "I" : Cond) ∈ wsX5_taught := by decide +kernel
set_option maxRecDepth 20000 in
theorem mX5_taught_1 : (Cond.fieldLink RX5 137 "TradeWheelModel" "trades" "I" : Cond) ∈ wsX5_taught := by decide +kernel
set_option maxRecDepth 20000 in
theorem mX5_taught_2 : (Cond.fieldLink RX5 140 "TradeWheelModel" "people" "I" : Cond) ∈ wsX5_taught := by decide +kernel
set_option maxRecDepth 20000 in
theorem mX5_taught_3 : (Cond.fieldLink RX5 34 "TradeWheelModel" "s" "[I" : Cond) ∈ wsX5_taught := by decide +kernel
set_option maxHeartbeats 4000000 in
set_option maxRecDepth 100000 in
theorem wX5_taught_68 {p : Program} {l : Launch} {e : Env} {s : State} {m : MethodId} {args : Array Value} {below : List Frame} {meth : Method} {c : Code} {Q : State → Prop} {A : Nat → Prop} {dC : Nat → ClassId} {dI : Nat → Nat → Nat} {Z : gZ} {cC cI cZ cW : ClassId} (hg0 : gX p s m args meth c cX5_taught 8 (some .int) wsX5_taught RX5 (dC, dI) Z [(cC, .char), (cI, .int), (cZ, .boolean), (cW, .object RX3)] A) (a_o a_o_text a_o_need a_o_made a_o_skillTold a_o_placeTold a_o_skips a_o_wheelTold a_o_tunes a_o_s a_o_spare a_o_kept a_o_isKept a_o_makes a_o_works a_o_order : Nat) (o_thrown : Int32) (o_trace : Int64) (o_typed : Int32) (o_next : Int32) (o_token : Int32) (o_place : Int32) (o_value : Int32) (o_fault : Int32) (o_trades : Int32) (o_people : Int32) (o_draftTrades : Int32) (o_draftPeople : Int32) (o_isShut : Int32) (o_need : Nat → Int32) (o_made : Nat → Int32) (o_skips : Nat → Int32) (o_tunes : Nat → Int32) (l1 : Int32) (l2 : Int32) (l5 : Int32) (N : Nat) : ∀ (n : Nat) (o_falling : Int32) (o_s : Nat → Int32) (o_spare : Nat → Int32) (o_makes : Nat → Int32) (o_works : Nat → Int32) (l3 : Int32) (l4 : Int32) (l6 : Int32) (o_falling' : Int32) (o_s' : Nat → Int32) (o_spare' : Nat → Int32) (o_makes' : Nat → Int32) (o_works' : Nat → Int32) (l3' : Int32) (l4' : Int32) (l6' : Int32), fX5_taught_68 N o_trades o_people o_need o_made o_skips o_tunes l1 l5 n o_falling o_s o_spare o_makes o_works l3 l4 l6 = some (o_falling', o_s', o_spare', o_makes', o_works', l3', l4', l6') → ∀ (H : Heap) (locs : List Loc) (ls : Array Slot), va_P (dC, dI) vwCl [(a_o, .inr (5, [.int o_thrown, .long o_trace, .ref a_o_text, .int o_typed, .int o_next, .int o_token, .int o_place, .int o_value, .int o_fault, .ref a_o_need, .ref a_o_made, .ref a_o_skillTold, .ref a_o_placeTold, .ref a_o_skips, .ref a_o_wheelTold, .int o_trades, .int o_people, .int o_draftTrades, .int o_draftPeople, .int o_isShut, .ref a_o_tunes, .ref a_o_s, .ref a_o_spare, .ref a_o_kept, .ref a_o_isKept, .ref a_o_makes, .ref a_o_works, .ref a_o_order, .int o_falling])), (a_o_need, .inl (cI, 12, .inl o_need)), (a_o_made, .inl (cI, 12, .inl o_made)), (a_o_skips, .inl (cI, 12, .inl o_skips)), (a_o_tunes, .inl (cI, 3, .inl o_tunes)), (a_o_s, .inl (cI, 105, .inl o_s)), (a_o_spare, .inl (cI, 105, .inl o_spare)), (a_o_makes, .inl (cI, 6, .inl o_makes)), (a_o_works, .inl (cI, 6, .inl o_works))] H → va_D A [(a_o, .inr (5, [.int o_thrown, .long o_trace, .ref a_o_text, .int o_typed, .int o_next, .int o_token, .int o_place, .int o_value, .int o_fault, .ref a_o_need, .ref a_o_made, .ref a_o_skillTold, .ref a_o_placeTold, .ref a_o_skips, .ref a_o_wheelTold, .int o_trades, .int o_people, .int o_draftTrades, .int o_draftPeople, .int o_isShut, .ref a_o_tunes, .ref a_o_s, .ref a_o_spare, .ref a_o_kept, .ref a_o_isKept, .ref a_o_makes, .ref a_o_works, .ref a_o_order, .int o_falling])), (a_o_need, .inl (cI, 12, .inl o_need)), (a_o_made, .inl (cI, 12, .inl o_made)), (a_o_skips, .inl (cI, 12, .inl o_skips)), (a_o_tunes, .inl (cI, 3, .inl o_tunes)), (a_o_s, .inl (cI, 105, .inl o_s)), (a_o_spare, .inl (cI, 105, .inl o_spare)), (a_o_makes, .inl (cI, 6, .inl o_makes)), (a_o_works, .inl (cI, 6, .inl o_works))] → va_S A s.heap H locs → lv_has ls 8 [(0, .ref a_o), (1, .int l1), (2, .int l2), (3, .int l3), (4, .int l4), (5, .int l5), (6, .int l6)] → (∀ (H : Heap) (locs : List Loc) (ls : Array Slot), va_P (dC, dI) vwCl [(a_o, .inr (5, [.int o_thrown, .long o_trace, .ref a_o_text, .int o_typed, .int o_next, .int o_token, .int o_place, .int o_value, .int o_fault, .ref a_o_need, .ref a_o_made, .ref a_o_skillTold, .ref a_o_placeTold, .ref a_o_skips, .ref a_o_wheelTold, .int o_trades, .int o_people, .int o_draftTrades, .int o_draftPeople, .int o_isShut, .ref a_o_tunes, .ref a_o_s, .ref a_o_spare, .ref a_o_kept, .ref a_o_isKept, .ref a_o_makes, .ref a_o_works, .ref a_o_order, .int o_falling'])), (a_o_need, .inl (cI, 12, .inl o_need)), (a_o_made, .inl (cI, 12, .inl o_made)), (a_o_skips, .inl (cI, 12, .inl o_skips)), (a_o_tunes, .inl (cI, 3, .inl o_tunes)), (a_o_s, .inl (cI, 105, .inl o_s')), (a_o_spare, .inl (cI, 105, .inl o_spare')), (a_o_makes, .inl (cI, 6, .inl o_makes')), (a_o_works, .inl (cI, 6, .inl o_works'))] H → va_D A [(a_o, .inr (5, [.int o_thrown, .long o_trace, .ref a_o_text, .int o_typed, .int o_next, .int o_token, .int o_place, .int o_value, .int o_fault, .ref a_o_need, .ref a_o_made, .ref a_o_skillTold, .ref a_o_placeTold, .ref a_o_skips, .ref a_o_wheelTold, .int o_trades, .int o_people, .int o_draftTrades, .int o_draftPeople, .int o_isShut, .ref a_o_tunes, .ref a_o_s, .ref a_o_spare, .ref a_o_kept, .ref a_o_isKept, .ref a_o_makes, .ref a_o_works, .ref a_o_order, .int o_falling'])), (a_o_need, .inl (cI, 12, .inl o_need)), (a_o_made, .inl (cI, 12, .inl o_made)), (a_o_skips, .inl (cI, 12, .inl o_skips)), (a_o_tunes, .inl (cI, 3, .inl o_tunes)), (a_o_s, .inl (cI, 105, .inl o_s')), (a_o_spare, .inl (cI, 105, .inl o_spare')), (a_o_makes, .inl (cI, 6, .inl o_makes')), (a_o_works, .inl (cI, 6, .inl o_works'))] → va_S A s.heap H locs → lv_has ls 8 [(0, .ref a_o), (1, .int l1), (2, .int l2), (3, .int l3'), (4, .int l4'), (5, .int l5)] → W p l e (headSpec wsX5_taught rmX5_taught).room s m args below meth c H locs 0 0 Q (F0 m 170 ls [])) → W p l e (headSpec wsX5_taught rmX5_taught).room s m args below meth c H locs 0 0 Q (F0 m 68 ls []) := by
  obtain ⟨hx, hb, hr, hml, hown, hts, hlocks, hA, hK, hN⟩ := id hg0
  have hF : CallFix p m c cX5_taught 8 s args wsX5_taught RX5 := ⟨hx, hb, hml, hown, hts⟩
  intro n
  induction n with
  | zero =>
    intro o_falling o_s o_spare o_makes o_works l3 l4 l6 o_falling' o_s' o_spare' o_makes' o_works' l3' l4' l6' hf
    have hf := fX5_taught_68_0.symm.trans hf
    cases hf
  | succ n ih =>
    intro o_falling o_s o_spare o_makes o_works l3 l4 l6 o_falling' o_s' o_spare' o_makes' o_works' l3' l4' l6' hf H locs ls hP hD hS hl kx
    have hf := fX5_taught_68_s.symm.trans hf
    refine lv_iload hx hb dX5_taught_68 (lv_at hl 6 rfl) ?_
    refine lv_aload_n hx hb dX5_taught_70 rfl (lv_at hl 0 rfl) ?_
    refine va_get (D := (dC, dI)) (ci := 5) (v := .int o_trades) (C := RX5) (T := TX5) (N := 29) hx hb hts uX5_taught_X5 hown hK hP 0 rfl rfl 15 (by decide) (hts _ mX5_taught_1) (fun _ h9 => h9) rfl dX5_taught_71 ?_
    refine lv_icmp_ge (tgt := 170) hx hb dX5_taught_74 (by decide) (fun c_1 => ?_) (fun c_1 => ?_)
    · have hf := pit hf c_1
      have q0 := Option.some.inj hf
      obtain ⟨e0, q1⟩ := Prod.mk.inj q0
      obtain ⟨e1, q2⟩ := Prod.mk.inj q1
      obtain ⟨e2, q3⟩ := Prod.mk.inj q2
      obtain ⟨e3, q4⟩ := Prod.mk.inj q3
      obtain ⟨e4, q5⟩ := Prod.mk.inj q4
      obtain ⟨e5, q6⟩ := Prod.mk.inj q5
      obtain ⟨e6, q7⟩ := Prod.mk.inj q6
      subst e0
      subst e1
      subst e2
      subst e3
      subst e4
      subst e5
      subst e6
      subst q7
      exact kx _ _ _ hP hD hS (lv_sub hl [0, 1, 2, 3, 4, 5] rfl)
    · have hf := pif hf c_1
      refine lv_aload_n hx hb dX5_taught_77 rfl (lv_at hl 0 rfl) ?_
      refine va_get (D := (dC, dI)) (ci := 5) (v := .ref a_o_s) (C := RX5) (T := TX5) (N := 29) hx hb hts uX5_taught_X5 hown hK hP 0 rfl rfl 21 (by decide) (hts _ mX5_taught_3) (fun _ h9 => h9) rfl dX5_taught_78 ?_
      refine lv_bipush (v := (33 : Int32)) hx hb dX5_taught_81 (by decide) ?_
      refine lv_bipush (v := (6 : Int32)) hx hb dX5_taught_83 (by decide) ?_
      refine lv_iload hx hb dX5_taught_85 (lv_at hl 5 rfl) ?_
      refine lv_imul hx hb dX5_taught_87 ?_
      refine lv_iadd hx hb dX5_taught_88 ?_
      refine lv_iload hx hb dX5_taught_89 (lv_at hl 6 rfl) ?_
      refine lv_iadd hx hb dX5_taught_91 ?_
      obtain ⟨h_2, hf⟩ := pgd hf
      refine va_iald hx hb hK hP 5 1 rfl rfl h_2 dX5_taught_92 ?_
      refine lv_bipush (v := (9 : Int32)) hx hb dX5_taught_93 (by decide) ?_
      refine lv_icmp_ge (tgt := 164) hx hb dX5_taught_95 (by decide) (fun c_3 => ?_) (fun c_3 => ?_)
      · have hf := pit hf c_3
        refine lv_iinc (v := (l6 + 1)) (lv' := [(6, .int (l6 + 1)), (0, .ref a_o), (1, .int l1), (2, .int l2), (3, .int l3), (4, .int l4), (5, .int l5)]) hx hb dX5_taught_164 hl (k := 6) rfl rfl (by decide) rfl (fun ls hl => ?_)
        refine lv_goto (tgt := 68) hx hb dX5_taught_167 (by decide) ?_
        exact ih _ _ _ _ _ _ _ _ _ _ _ _ _ _ _ _ hf _ _ _ hP hD hS (lv_sub hl [1, 2, 3, 4, 5, 6, 0] rfl) kx
      · have hf := pif hf c_3
        refine lv_aload_n hx hb dX5_taught_98 rfl (lv_at hl 0 rfl) ?_
        refine va_get (D := (dC, dI)) (ci := 5) (v := .ref a_o_s) (C := RX5) (T := TX5) (N := 29) hx hb hts uX5_taught_X5 hown hK hP 0 rfl rfl 21 (by decide) (hts _ mX5_taught_3) (fun _ h9 => h9) rfl dX5_taught_99 ?_
        refine lv_bipush (v := (33 : Int32)) hx hb dX5_taught_102 (by decide) ?_
        refine lv_bipush (v := (6 : Int32)) hx hb dX5_taught_104 (by decide) ?_
        refine lv_iload hx hb dX5_taught_106 (lv_at hl 5 rfl) ?_
        refine lv_imul hx hb dX5_taught_108 ?_
        refine lv_iadd hx hb dX5_taught_109 ?_
        refine lv_iload hx hb dX5_taught_110 (lv_at hl 6 rfl) ?_
        refine lv_iadd hx hb dX5_taught_112 ?_
        refine lv_dup2_11 hx hb dX5_taught_113 rfl rfl ?_
        obtain ⟨h_4, hf⟩ := pgd hf
        refine va_iald hx hb hK hP 5 1 rfl rfl h_4 dX5_taught_114 ?_
        refine lv_iconst (v := (1 : Int32)) hx hb dX5_taught_115 (by decide) ?_
        refine lv_iadd hx hb dX5_taught_116 ?_
        obtain ⟨h_5, hf⟩ := pgd hf
        refine va_iast hx hb hK hP hD hS 5 1 rfl rfl h_5 dX5_taught_117 (fun H locs hP hD hS => ?_)
        have hP : va_P (dC, dI) vwCl [(a_o, .inr (5, [.int o_thrown, .long o_trace, .ref a_o_text, .int o_typed, .int o_next, .int o_token, .int o_place, .int o_value, .int o_fault, .ref a_o_need, .ref a_o_made, .ref a_o_skillTold, .ref a_o_placeTold, .ref a_o_skips, .ref a_o_wheelTold, .int o_trades, .int o_people, .int o_draftTrades, .int o_draftPeople, .int o_isShut, .ref a_o_tunes, .ref a_o_s, .ref a_o_spare, .ref a_o_kept, .ref a_o_isKept, .ref a_o_makes, .ref a_o_works, .ref a_o_order, .int o_falling])), (a_o_need, .inl (cI, 12, .inl o_need)), (a_o_made, .inl (cI, 12, .inl o_made)), (a_o_skips, .inl (cI, 12, .inl o_skips)), (a_o_tunes, .inl (cI, 3, .inl o_tunes)), (a_o_s, .inl (cI, 105, .inl (upd o_s (((33 : Int32) + ((6 : Int32) * l5)) + l6).toNatClampNeg ((o_s (((33 : Int32) + ((6 : Int32) * l5)) + l6).toNatClampNeg) + (1 : Int32))))), (a_o_spare, .inl (cI, 105, .inl o_spare)), (a_o_makes, .inl (cI, 6, .inl o_makes)), (a_o_works, .inl (cI, 6, .inl o_works))] H := hP
        have hD : va_D A [(a_o, .inr (5, [.int o_thrown, .long o_trace, .ref a_o_text, .int o_typed, .int o_next, .int o_token, .int o_place, .int o_value, .int o_fault, .ref a_o_need, .ref a_o_made, .ref a_o_skillTold, .ref a_o_placeTold, .ref a_o_skips, .ref a_o_wheelTold, .int o_trades, .int o_people, .int o_draftTrades, .int o_draftPeople, .int o_isShut, .ref a_o_tunes, .ref a_o_s, .ref a_o_spare, .ref a_o_kept, .ref a_o_isKept, .ref a_o_makes, .ref a_o_works, .ref a_o_order, .int o_falling])), (a_o_need, .inl (cI, 12, .inl o_need)), (a_o_made, .inl (cI, 12, .inl o_made)), (a_o_skips, .inl (cI, 12, .inl o_skips)), (a_o_tunes, .inl (cI, 3, .inl o_tunes)), (a_o_s, .inl (cI, 105, .inl (upd o_s (((33 : Int32) + ((6 : Int32) * l5)) + l6).toNatClampNeg ((o_s (((33 : Int32) + ((6 : Int32) * l5)) + l6).toNatClampNeg) + (1 : Int32))))), (a_o_spare, .inl (cI, 105, .inl o_spare)), (a_o_makes, .inl (cI, 6, .inl o_makes)), (a_o_works, .inl (cI, 6, .inl o_works))] := hD
        refine lv_aload_n hx hb dX5_taught_118 rfl (lv_at hl 0 rfl) ?_
        refine lv_iload_n hx hb dX5_taught_119 rfl (lv_at hl 1 rfl) ?_
        obtain ⟨r_6, o_falling_7, o_s_8, o_makes_9, o_works_10, hc, hf⟩ := pb5 hf
        refine gCi (va_runV (As := [.int l1]) (rest := []) hF (kX5_lacksIn l dC dI Z cC cI cZ cW a_o a_o_text a_o_need a_o_made a_o_skillTold a_o_placeTold a_o_skips a_o_wheelTold a_o_tunes a_o_s a_o_spare a_o_kept a_o_isKept a_o_makes a_o_works a_o_order _ o_thrown o_trace o_typed o_next o_token o_place o_value o_fault o_trades o_people o_draftTrades o_draftPeople o_isShut o_falling o_need o_made o_skips o_tunes (upd o_s (((33 : Int32) + ((6 : Int32) * l5)) + l6).toNatClampNeg ((o_s (((33 : Int32) + ((6 : Int32) * l5)) + l6).toNatClampNeg) + (1 : Int32))) o_makes o_works l1 N r_6 o_falling_7 o_s_8 o_makes_9 o_works_10 hc) (cwV 1 hts gX5_taught_X5_lacksIn rfl rfl rfl (by decide +kernel) ⟨Nat.le_of_ble_eq_true rfl, Nat.le_of_ble_eq_true rfl⟩) (gPV (wc := [(a_o, .inr (5, [.int o_thrown, .long o_trace, .ref a_o_text, .int o_typed, .int o_next, .int o_token, .int o_place, .int o_value, .int o_fault, .ref a_o_need, .ref a_o_made, .ref a_o_skillTold, .ref a_o_placeTold, .ref a_o_skips, .ref a_o_wheelTold, .int o_trades, .int o_people, .int o_draftTrades, .int o_draftPeople, .int o_isShut, .ref a_o_tunes, .ref a_o_s, .ref a_o_spare, .ref a_o_kept, .ref a_o_isKept, .ref a_o_makes, .ref a_o_works, .ref a_o_order, .int o_falling])), (a_o_need, .inl (cI, 12, .inl o_need)), (a_o_made, .inl (cI, 12, .inl o_made)), (a_o_skips, .inl (cI, 12, .inl o_skips)), (a_o_tunes, .inl (cI, 3, .inl o_tunes)), (a_o_s, .inl (cI, 105, .inl (upd o_s (((33 : Int32) + ((6 : Int32) * l5)) + l6).toNatClampNeg ((o_s (((33 : Int32) + ((6 : Int32) * l5)) + l6).toNatClampNeg) + (1 : Int32))))), (a_o_makes, .inl (cI, 6, .inl o_makes)), (a_o_works, .inl (cI, 6, .inl o_works))]) hK hN hA hS hP hD [0, 1, 2, 3, 4, 5, 7, 8] rfl rfl (q0 := 0) (ci := 5) rfl rfl rfl) rfl rfl hl.1 rfl (lv_room (Nat.le_of_ble_eq_true rfl)) dX5_taught_120 ⟨Nat.zero_le _, Nat.zero_le _⟩) hP hD hS hA [0, 1, 2, 3, 4, 5, 7, 8] rfl rfl rfl (fun H locs hP hD hS => ?_)
        have hP : va_P (dC, dI) vwCl [(a_o, .inr (5, [.int o_thrown, .long o_trace, .ref a_o_text, .int o_typed, .int o_next, .int o_token, .int o_place, .int o_value, .int o_fault, .ref a_o_need, .ref a_o_made, .ref a_o_skillTold, .ref a_o_placeTold, .ref a_o_skips, .ref a_o_wheelTold, .int o_trades, .int o_people, .int o_draftTrades, .int o_draftPeople, .int o_isShut, .ref a_o_tunes, .ref a_o_s, .ref a_o_spare, .ref a_o_kept, .ref a_o_isKept, .ref a_o_makes, .ref a_o_works, .ref a_o_order, .int o_falling_7])), (a_o_need, .inl (cI, 12, .inl o_need)), (a_o_made, .inl (cI, 12, .inl o_made)), (a_o_skips, .inl (cI, 12, .inl o_skips)), (a_o_tunes, .inl (cI, 3, .inl o_tunes)), (a_o_s, .inl (cI, 105, .inl o_s_8)), (a_o_spare, .inl (cI, 105, .inl o_spare)), (a_o_makes, .inl (cI, 6, .inl o_makes_9)), (a_o_works, .inl (cI, 6, .inl o_works_10))] H := hP
        have hD : va_D A [(a_o, .inr (5, [.int o_thrown, .long o_trace, .ref a_o_text, .int o_typed, .int o_next, .int o_token, .int o_place, .int o_value, .int o_fault, .ref a_o_need, .ref a_o_made, .ref a_o_skillTold, .ref a_o_placeTold, .ref a_o_skips, .ref a_o_wheelTold, .int o_trades, .int o_people, .int o_draftTrades, .int o_draftPeople, .int o_isShut, .ref a_o_tunes, .ref a_o_s, .ref a_o_spare, .ref a_o_kept, .ref a_o_isKept, .ref a_o_makes, .ref a_o_works, .ref a_o_order, .int o_falling_7])), (a_o_need, .inl (cI, 12, .inl o_need)), (a_o_made, .inl (cI, 12, .inl o_made)), (a_o_skips, .inl (cI, 12, .inl o_skips)), (a_o_tunes, .inl (cI, 3, .inl o_tunes)), (a_o_s, .inl (cI, 105, .inl o_s_8)), (a_o_spare, .inl (cI, 105, .inl o_spare)), (a_o_makes, .inl (cI, 6, .inl o_makes_9)), (a_o_works, .inl (cI, 6, .inl o_works_10))] := hD
        refine lv_istore (lv' := [(7, .int r_6), (0, .ref a_o), (1, .int l1), (2, .int l2), (3, .int l3), (4, .int l4), (5, .int l5), (6, .int l6)]) hx hb dX5_taught_123 hl (by decide) rfl (fun ls hl => ?_)
        refine lv_aload_n hx hb dX5_taught_125 rfl (lv_at hl 1 rfl) ?_
        refine lv_iconst (v := (0 : Int32)) hx hb dX5_taught_126 (by decide) ?_
        obtain ⟨o_s_11, o_spare_12, hc, hf⟩ := pb2 hf
        refine gCv (va_runV (As := [.int (0 : Int32)]) (rest := []) hF (kX5_aside l dC dI Z cC cI cZ cW a_o a_o_text a_o_need a_o_made a_o_skillTold a_o_placeTold a_o_skips a_o_wheelTold a_o_tunes a_o_s a_o_spare a_o_kept a_o_isKept a_o_makes a_o_works a_o_order _ o_thrown o_trace o_typed o_next o_token o_place o_value o_fault o_trades o_people o_draftTrades o_draftPeople o_isShut o_falling_7 o_s_8 o_spare (0 : Int32) N o_s_11 o_spare_12 hc) (cwV 1 hts gX5_taught_X5_aside rfl rfl rfl (by decide +kernel) ⟨Nat.le_of_ble_eq_true rfl, Nat.le_of_ble_eq_true rfl⟩) (gPV (wc := [(a_o, .inr (5, [.int o_thrown, .long o_trace, .ref a_o_text, .int o_typed, .int o_next, .int o_token, .int o_place, .int o_value, .int o_fault, .ref a_o_need, .ref a_o_made, .ref a_o_skillTold, .ref a_o_placeTold, .ref a_o_skips, .ref a_o_wheelTold, .int o_trades, .int o_people, .int o_draftTrades, .int o_draftPeople, .int o_isShut, .ref a_o_tunes, .ref a_o_s, .ref a_o_spare, .ref a_o_kept, .ref a_o_isKept, .ref a_o_makes, .ref a_o_works, .ref a_o_order, .int o_falling_7])), (a_o_s, .inl (cI, 105, .inl o_s_8)), (a_o_spare, .inl (cI, 105, .inl o_spare))]) hK hN hA hS hP hD [0, 5, 6] rfl rfl (q0 := 0) (ci := 5) rfl rfl rfl) rfl rfl hl.1 rfl (lv_room (Nat.le_of_ble_eq_true rfl)) dX5_taught_127 ⟨Nat.zero_le _, Nat.zero_le _⟩) hP hD hS hA [0, 5, 6] rfl rfl rfl (fun H locs hP hD hS => ?_)
        have hP : va_P (dC, dI) vwCl [(a_o, .inr (5, [.int o_thrown, .long o_trace, .ref a_o_text, .int o_typed, .int o_next, .int o_token, .int o_place, .int o_value, .int o_fault, .ref a_o_need, .ref a_o_made, .ref a_o_skillTold, .ref a_o_placeTold, .ref a_o_skips, .ref a_o_wheelTold, .int o_trades, .int o_people, .int o_draftTrades, .int o_draftPeople, .int o_isShut, .ref a_o_tunes, .ref a_o_s, .ref a_o_spare, .ref a_o_kept, .ref a_o_isKept, .ref a_o_makes, .ref a_o_works, .ref a_o_order, .int o_falling_7])), (a_o_need, .inl (cI, 12, .inl o_need)), (a_o_made, .inl (cI, 12, .inl o_made)), (a_o_skips, .inl (cI, 12, .inl o_skips)), (a_o_tunes, .inl (cI, 3, .inl o_tunes)), (a_o_s, .inl (cI, 105, .inl o_s_11)), (a_o_spare, .inl (cI, 105, .inl o_spare_12)), (a_o_makes, .inl (cI, 6, .inl o_makes_9)), (a_o_works, .inl (cI, 6, .inl o_works_10))] H := hP
        have hD : va_D A [(a_o, .inr (5, [.int o_thrown, .long o_trace, .ref a_o_text, .int o_typed, .int o_next, .int o_token, .int o_place, .int o_value, .int o_fault, .ref a_o_need, .ref a_o_made, .ref a_o_skillTold, .ref a_o_placeTold, .ref a_o_skips, .ref a_o_wheelTold, .int o_trades, .int o_people, .int o_draftTrades, .int o_draftPeople, .int o_isShut, .ref a_o_tunes, .ref a_o_s, .ref a_o_spare, .ref a_o_kept, .ref a_o_isKept, .ref a_o_makes, .ref a_o_works, .ref a_o_order, .int o_falling_7])), (a_o_need, .inl (cI, 12, .inl o_need)), (a_o_made, .inl (cI, 12, .inl o_made)), (a_o_skips, .inl (cI, 12, .inl o_skips)), (a_o_tunes, .inl (cI, 3, .inl o_tunes)), (a_o_s, .inl (cI, 105, .inl o_s_11)), (a_o_spare, .inl (cI, 105, .inl o_spare_12)), (a_o_makes, .inl (cI, 6, .inl o_makes_9)), (a_o_works, .inl (cI, 6, .inl o_works_10))] := hD
        refine lv_iload hx hb dX5_taught_130 (lv_at hl 0 rfl) ?_
        refine lv_iload_n hx hb dX5_taught_132 rfl (lv_at hl 4 rfl) ?_
        refine lv_icmp_ge (tgt := 147) hx hb dX5_taught_133 (by decide) (fun c_13 => ?_) (fun c_13 => ?_)
        · have hf := pit hf c_13
          refine lv_iload hx hb dX5_taught_147 (lv_at hl 5 rfl) ?_
          refine lv_istore (lv' := [(4, .int l4), (7, .int r_6), (0, .ref a_o), (1, .int l1), (2, .int l2), (3, .int l3), (5, .int l5), (6, .int l6)]) hx hb dX5_taught_149 hl (by decide) rfl (fun ls hl => ?_)
          refine lv_iload hx hb dX5_taught_151 (lv_at hl 1 rfl) ?_
          refine lv_iload_n hx hb dX5_taught_153 rfl (lv_at hl 5 rfl) ?_
          refine lv_icmp_ge (tgt := 162) hx hb dX5_taught_154 (by decide) (fun c_14 => ?_) (fun c_14 => ?_)
          · have hf := pit hf c_14
            refine lv_iload_n hx hb dX5_taught_162 rfl (lv_at hl 5 rfl) ?_
            refine lv_istore_n (lv' := [(3, .int l3), (4, .int l4), (7, .int r_6), (0, .ref a_o), (1, .int l1), (2, .int l2), (5, .int l5), (6, .int l6)]) hx hb dX5_taught_163 rfl hl (by decide) rfl (fun ls hl => ?_)
            refine lv_iinc (v := (l6 + 1)) (lv' := [(6, .int (l6 + 1)), (3, .int l3), (4, .int l4), (7, .int r_6), (0, .ref a_o), (1, .int l1), (2, .int l2), (5, .int l5)]) hx hb dX5_taught_164 hl (k := 7) rfl rfl (by decide) rfl (fun ls hl => ?_)
            refine lv_goto (tgt := 68) hx hb dX5_taught_167 (by decide) ?_
            exact ih _ _ _ _ _ _ _ _ _ _ _ _ _ _ _ _ hf _ _ _ hP hD hS (lv_sub hl [4, 5, 6, 1, 2, 7, 0] rfl) kx
          · have hf := pif hf c_14
            refine lv_iload hx hb dX5_taught_157 (lv_at hl 1 rfl) ?_
            refine lv_goto (tgt := 163) hx hb dX5_taught_159 (by decide) ?_
            refine lv_istore_n (lv' := [(3, .int r_6), (4, .int l4), (7, .int r_6), (0, .ref a_o), (1, .int l1), (2, .int l2), (5, .int l5), (6, .int l6)]) hx hb dX5_taught_163 rfl hl (by decide) rfl (fun ls hl => ?_)
            refine lv_iinc (v := (l6 + 1)) (lv' := [(6, .int (l6 + 1)), (3, .int r_6), (4, .int l4), (7, .int r_6), (0, .ref a_o), (1, .int l1), (2, .int l2), (5, .int l5)]) hx hb dX5_taught_164 hl (k := 7) rfl rfl (by decide) rfl (fun ls hl => ?_)
            refine lv_goto (tgt := 68) hx hb dX5_taught_167 (by decide) ?_
            exact ih _ _ _ _ _ _ _ _ _ _ _ _ _ _ _ _ hf _ _ _ hP hD hS (lv_sub hl [4, 5, 6, 1, 2, 7, 0] rfl) kx
        · have hf := pif hf c_13
          refine lv_bipush (v := (10 : Int32)) hx hb dX5_taught_136 (by decide) ?_
          refine lv_iload hx hb dX5_taught_138 (lv_at hl 6 rfl) ?_
          refine lv_imul hx hb dX5_taught_140 ?_
          refine lv_iload hx hb dX5_taught_141 (lv_at hl 7 rfl) ?_
          refine lv_iadd hx hb dX5_taught_143 ?_
          refine lv_goto (tgt := 149) hx hb dX5_taught_144 (by decide) ?_
          refine lv_istore (lv' := [(4, .int (((10 : Int32) * l5) + l6)), (7, .int r_6), (0, .ref a_o), (1, .int l1), (2, .int l2), (3, .int l3), (5, .int l5), (6, .int l6)]) hx hb dX5_taught_149 hl (by decide) rfl (fun ls hl => ?_)
          refine lv_iload hx hb dX5_taught_151 (lv_at hl 1 rfl) ?_
          refine lv_iload_n hx hb dX5_taught_153 rfl (lv_at hl 5 rfl) ?_
          refine lv_icmp_ge (tgt := 162) hx hb dX5_taught_154 (by decide) (fun c_15 => ?_) (fun c_15 => ?_)
          · have hf := pit hf c_15
            refine lv_iload_n hx hb dX5_taught_162 rfl (lv_at hl 5 rfl) ?_
            refine lv_istore_n (lv' := [(3, .int l3), (4, .int (((10 : Int32) * l5) + l6)), (7, .int r_6), (0, .ref a_o), (1, .int l1), (2, .int l2), (5, .int l5), (6, .int l6)]) hx hb dX5_taught_163 rfl hl (by decide) rfl (fun ls hl => ?_)
            refine lv_iinc (v := (l6 + 1)) (lv' := [(6, .int (l6 + 1)), (3, .int l3), (4, .int (((10 : Int32) * l5) + l6)), (7, .int r_6), (0, .ref a_o), (1, .int l1), (2, .int l2), (5, .int l5)]) hx hb dX5_taught_164 hl (k := 7) rfl rfl (by decide) rfl (fun ls hl => ?_)
            refine lv_goto (tgt := 68) hx hb dX5_taught_167 (by decide) ?_
            exact ih _ _ _ _ _ _ _ _ _ _ _ _ _ _ _ _ hf _ _ _ hP hD hS (lv_sub hl [4, 5, 6, 1, 2, 7, 0] rfl) kx
          · have hf := pif hf c_15
            refine lv_iload hx hb dX5_taught_157 (lv_at hl 1 rfl) ?_
            refine lv_goto (tgt := 163) hx hb dX5_taught_159 (by decide) ?_
            refine lv_istore_n (lv' := [(3, .int r_6), (4, .int (((10 : Int32) * l5) + l6)), (7, .int r_6), (0, .ref a_o), (1, .int l1), (2, .int l2), (5, .int l5), (6, .int l6)]) hx hb dX5_taught_163 rfl hl (by decide) rfl (fun ls hl => ?_)
            refine lv_iinc (v := (l6 + 1)) (lv' := [(6, .int (l6 + 1)), (3, .int r_6), (4, .int (((10 : Int32) * l5) + l6)), (7, .int r_6), (0, .ref a_o), (1, .int l1), (2, .int l2), (5, .int l5)]) hx hb dX5_taught_164 hl (k := 7) rfl rfl (by decide) rfl (fun ls hl => ?_)
            refine lv_goto (tgt := 68) hx hb dX5_taught_167 (by decide) ?_
            exact ih _ _ _ _ _ _ _ _ _ _ _ _ _ _ _ _ hf _ _ _ hP hD hS (lv_sub hl [4, 5, 6, 1, 2, 7, 0] rfl) kx
set_option maxHeartbeats 4000000 in
set_option maxRecDepth 100000 in
theorem wX5_taught_56 {p : Program} {l : Launch} {e : Env} {s : State} {m : MethodId} {args : Array Value} {below : List Frame} {meth : Method} {c : Code} {Q : State → Prop} {A : Nat → Prop} {dC : Nat → ClassId} {dI : Nat → Nat → Nat} {Z : gZ} {cC cI cZ cW : ClassId} (hg0 : gX p s m args meth c cX5_taught 8 (some .int) wsX5_taught RX5 (dC, dI) Z [(cC, .char), (cI, .int), (cZ, .boolean), (cW, .object RX3)] A) (a_o a_o_text a_o_need a_o_made a_o_skillTold a_o_placeTold a_o_skips a_o_wheelTold a_o_tunes a_o_s a_o_spare a_o_kept a_o_isKept a_o_makes a_o_works a_o_order : Nat) (o_thrown : Int32) (o_trace : Int64) (o_typed : Int32) (o_next : Int32) (o_token : Int32) (o_place : Int32) (o_value : Int32) (o_fault : Int32) (o_trades : Int32) (o_people : Int32) (o_draftTrades : Int32) (o_draftPeople : Int32) (o_isShut : Int32) (o_need : Nat → Int32) (o_made : Nat → Int32) (o_skips : Nat → Int32) (o_tunes : Nat → Int32) (l1 : Int32) (l2 : Int32) (N : Nat) : ∀ (n : Nat) (o_falling : Int32) (o_s : Nat → Int32) (o_spare : Nat → Int32) (o_makes : Nat → Int32) (o_works : Nat → Int32) (l3 : Int32) (l4 : Int32) (l5 : Int32) (o_falling' : Int32) (o_s' : Nat → Int32) (o_spare' : Nat → Int32) (o_makes' : Nat → Int32) (o_works' : Nat → Int32) (l3' : Int32) (l4' : Int32) (l5' : Int32), fX5_taught_56 N o_trades o_people o_need o_made o_skips o_tunes l1 n o_falling o_s o_spare o_makes o_works l3 l4 l5 = some (o_falling', o_s', o_spare', o_makes', o_works', l3', l4', l5') → ∀ (H : Heap) (locs : List Loc) (ls : Array Slot), va_P (dC, dI) vwCl [(a_o, .inr (5, [.int o_thrown, .long o_trace, .ref a_o_text, .int o_typed, .int o_next, .int o_token, .int o_place, .int o_value, .int o_fault, .ref a_o_need, .ref a_o_made, .ref a_o_skillTold, .ref a_o_placeTold, .ref a_o_skips, .ref a_o_wheelTold, .int o_trades, .int o_people, .int o_draftTrades, .int o_draftPeople, .int o_isShut, .ref a_o_tunes, .ref a_o_s, .ref a_o_spare, .ref a_o_kept, .ref a_o_isKept, .ref a_o_makes, .ref a_o_works, .ref a_o_order, .int o_falling])), (a_o_need, .inl (cI, 12, .inl o_need)), (a_o_made, .inl (cI, 12, .inl o_made)), (a_o_skips, .inl (cI, 12, .inl o_skips)), (a_o_tunes, .inl (cI, 3, .inl o_tunes)), (a_o_s, .inl (cI, 105, .inl o_s)), (a_o_spare, .inl (cI, 105, .inl o_spare)), (a_o_makes, .inl (cI, 6, .inl o_makes)), (a_o_works, .inl (cI, 6, .inl o_works))] H → va_D A [(a_o, .inr (5, [.int o_thrown, .long o_trace, .ref a_o_text, .int o_typed, .int o_next, .int o_token, .int o_place, .int o_value, .int o_fault, .ref a_o_need, .ref a_o_made, .ref a_o_skillTold, .ref a_o_placeTold, .ref a_o_skips, .ref a_o_wheelTold, .int o_trades, .int o_people, .int o_draftTrades, .int o_draftPeople, .int o_isShut, .ref a_o_tunes, .ref a_o_s, .ref a_o_spare, .ref a_o_kept, .ref a_o_isKept, .ref a_o_makes, .ref a_o_works, .ref a_o_order, .int o_falling])), (a_o_need, .inl (cI, 12, .inl o_need)), (a_o_made, .inl (cI, 12, .inl o_made)), (a_o_skips, .inl (cI, 12, .inl o_skips)), (a_o_tunes, .inl (cI, 3, .inl o_tunes)), (a_o_s, .inl (cI, 105, .inl o_s)), (a_o_spare, .inl (cI, 105, .inl o_spare)), (a_o_makes, .inl (cI, 6, .inl o_makes)), (a_o_works, .inl (cI, 6, .inl o_works))] → va_S A s.heap H locs → lv_has ls 8 [(0, .ref a_o), (1, .int l1), (2, .int l2), (3, .int l3), (4, .int l4), (5, .int l5)] → (∀ (H : Heap) (locs : List Loc) (ls : Array Slot), va_P (dC, dI) vwCl [(a_o, .inr (5, [.int o_thrown, .long o_trace, .ref a_o_text, .int o_typed, .int o_next, .int o_token, .int o_place, .int o_value, .int o_fault, .ref a_o_need, .ref a_o_made, .ref a_o_skillTold, .ref a_o_placeTold, .ref a_o_skips, .ref a_o_wheelTold, .int o_trades, .int o_people, .int o_draftTrades, .int o_draftPeople, .int o_isShut, .ref a_o_tunes, .ref a_o_s, .ref a_o_spare, .ref a_o_kept, .ref a_o_isKept, .ref a_o_makes, .ref a_o_works, .ref a_o_order, .int o_falling'])), (a_o_need, .inl (cI, 12, .inl o_need)), (a_o_made, .inl (cI, 12, .inl o_made)), (a_o_skips, .inl (cI, 12, .inl o_skips)), (a_o_tunes, .inl (cI, 3, .inl o_tunes)), (a_o_s, .inl (cI, 105, .inl o_s')), (a_o_spare, .inl (cI, 105, .inl o_spare')), (a_o_makes, .inl (cI, 6, .inl o_makes')), (a_o_works, .inl (cI, 6, .inl o_works'))] H → va_D A [(a_o, .inr (5, [.int o_thrown, .long o_trace, .ref a_o_text, .int o_typed, .int o_next, .int o_token, .int o_place, .int o_value, .int o_fault, .ref a_o_need, .ref a_o_made, .ref a_o_skillTold, .ref a_o_placeTold, .ref a_o_skips, .ref a_o_wheelTold, .int o_trades, .int o_people, .int o_draftTrades, .int o_draftPeople, .int o_isShut, .ref a_o_tunes, .ref a_o_s, .ref a_o_spare, .ref a_o_kept, .ref a_o_isKept, .ref a_o_makes, .ref a_o_works, .ref a_o_order, .int o_falling'])), (a_o_need, .inl (cI, 12, .inl o_need)), (a_o_made, .inl (cI, 12, .inl o_made)), (a_o_skips, .inl (cI, 12, .inl o_skips)), (a_o_tunes, .inl (cI, 3, .inl o_tunes)), (a_o_s, .inl (cI, 105, .inl o_s')), (a_o_spare, .inl (cI, 105, .inl o_spare')), (a_o_makes, .inl (cI, 6, .inl o_makes')), (a_o_works, .inl (cI, 6, .inl o_works'))] → va_S A s.heap H locs → lv_has ls 8 [(2, .int l2), (3, .int l3'), (4, .int l4')] → W p l e (headSpec wsX5_taught rmX5_taught).room s m args below meth c H locs 0 0 Q (F0 m 176 ls [])) → W p l e (headSpec wsX5_taught rmX5_taught).room s m args below meth c H locs 0 0 Q (F0 m 56 ls []) := by
  obtain ⟨hx, hb, hr, hml, hown, hts, hlocks, hA, hK, hN⟩ := id hg0
  have hF : CallFix p m c cX5_taught 8 s args wsX5_taught RX5 := ⟨hx, hb, hml, hown, hts⟩
  intro n
  induction n with
  | zero =>
    intro o_falling o_s o_spare o_makes o_works l3 l4 l5 o_falling' o_s' o_spare' o_makes' o_works' l3' l4' l5' hf
    have hf := fX5_taught_56_0.symm.trans hf
    cases hf
  | succ n ih =>
    intro o_falling o_s o_spare o_makes o_works l3 l4 l5 o_falling' o_s' o_spare' o_makes' o_works' l3' l4' l5' hf H locs ls hP hD hS hl kx
    have hf := fX5_taught_56_s.symm.trans hf
    refine lv_iload hx hb dX5_taught_56 (lv_at hl 5 rfl) ?_
    refine lv_aload_n hx hb dX5_taught_58 rfl (lv_at hl 0 rfl) ?_
    refine va_get (D := (dC, dI)) (ci := 5) (v := .int o_people) (C := RX5) (T := TX5) (N := 29) hx hb hts uX5_taught_X5 hown hK hP 0 rfl rfl 16 (by decide) (hts _ mX5_taught_2) (fun _ h9 => h9) rfl dX5_taught_59 ?_
    refine lv_icmp_ge (tgt := 176) hx hb dX5_taught_62 (by decide) (fun c_1 => ?_) (fun c_1 => ?_)
    · have hf := pit hf c_1
      have q0 := Option.some.inj hf
      obtain ⟨e0, q1⟩ := Prod.mk.inj q0
      obtain ⟨e1, q2⟩ := Prod.mk.inj q1
      obtain ⟨e2, q3⟩ := Prod.mk.inj q2
      obtain ⟨e3, q4⟩ := Prod.mk.inj q3
      obtain ⟨e4, q5⟩ := Prod.mk.inj q4
      obtain ⟨e5, q6⟩ := Prod.mk.inj q5
      obtain ⟨e6, q7⟩ := Prod.mk.inj q6
      subst e0
      subst e1
      subst e2
      subst e3
      subst e4
      subst e5
      subst e6
      subst q7
      exact kx _ _ _ hP hD hS (lv_sub hl [2, 3, 4] rfl)
    · have hf := pif hf c_1
      refine lv_iconst (v := (0 : Int32)) hx hb dX5_taught_65 (by decide) ?_
      refine lv_istore (lv' := [(6, .int (0 : Int32)), (0, .ref a_o), (1, .int l1), (2, .int l2), (3, .int l3), (4, .int l4), (5, .int l5)]) hx hb dX5_taught_66 hl (by decide) rfl (fun ls hl => ?_)
      obtain ⟨o_falling_2, o_s_3, o_spare_4, o_makes_5, o_works_6, l3_7, l4_8, l6_9, hc, hf⟩ := pb8 hf
      refine wX5_taught_68 hg0 a_o a_o_text a_o_need a_o_made a_o_skillTold a_o_placeTold a_o_skips a_o_wheelTold a_o_tunes a_o_s a_o_spare a_o_kept a_o_isKept a_o_makes a_o_works a_o_order o_thrown o_trace o_typed o_next o_token o_place o_value o_fault o_trades o_people o_draftTrades o_draftPeople o_isShut o_need o_made o_skips o_tunes l1 l2 l5 N N o_falling o_s o_spare o_makes o_works l3 l4 (0 : Int32) o_falling_2 o_s_3 o_spare_4 o_makes_5 o_works_6 l3_7 l4_8 l6_9 hc _ _ _ hP hD hS (lv_sub hl [1, 2, 3, 4, 5, 6, 0] rfl) (fun H locs ls hP hD hS hl => ?_)
      refine lv_iinc (v := (l5 + 1)) (lv' := [(5, .int (l5 + 1)), (0, .ref a_o), (1, .int l1), (2, .int l2), (3, .int l3_7), (4, .int l4_8)]) hx hb dX5_taught_170 hl (k := 5) rfl rfl (by decide) rfl (fun ls hl => ?_)
      refine lv_goto (tgt := 56) hx hb dX5_taught_173 (by decide) ?_
      exact ih _ _ _ _ _ _ _ _ _ _ _ _ _ _ _ _ hf _ _ _ hP hD hS (lv_sub hl [1, 2, 3, 4, 5, 0] rfl) kx
set_option maxHeartbeats 4000000 in
set_option maxRecDepth 100000 in
theorem kX5_taught (l : Launch) (dC : Nat → ClassId) (dI : Nat → Nat → Nat) (Z : gZ) (cC cI cZ cW : ClassId) (a_o a_o_text a_o_need a_o_made a_o_skillTold a_o_placeTold a_o_skips a_o_wheelTold a_o_tunes a_o_s a_o_spare a_o_kept a_o_isKept a_o_makes a_o_works a_o_order : Nat) (sz : Nat) (o_thrown : Int32) (o_trace : Int64) (o_typed : Int32) (o_next : Int32) (o_token : Int32) (o_place : Int32) (o_value : Int32) (o_fault : Int32) (o_trades : Int32) (o_people : Int32) (o_draftTrades : Int32) (o_draftPeople : Int32) (o_isShut : Int32) (o_falling : Int32) (o_need : Nat → Int32) (o_made : Nat → Int32) (o_skips : Nat → Int32) (o_tunes : Nat → Int32) (o_s : Nat → Int32) (o_spare : Nat → Int32) (o_makes : Nat → Int32) (o_works : Nat → Int32) (i1 : Int32) (i2 : Int32) (N : Nat) (r' : Int32) (o_thrown' : Int32) (o_falling' : Int32) (o_s' : Nat → Int32) (o_spare' : Nat → Int32) (o_makes' : Nat → Int32) (o_works' : Nat → Int32) (hf : fX5_taught N o_thrown o_trades o_people o_falling o_need o_made o_skips o_tunes o_s o_spare o_makes o_works  i1 i2 = some (r', o_thrown', o_falling', o_s', o_spare', o_makes', o_works')) : Met l yX5_taught wsX5_taught rmX5_taught (va_Pc [.ref a_o, .int i1, .int i2] (gB (dC, dI) Z [(cC, .char), (cI, .int), (cZ, .boolean), (cW, .object RX3)] [(a_o, .inr (5, [.int o_thrown, .long o_trace, .ref a_o_text, .int o_typed, .int o_next, .int o_token, .int o_place, .int o_value, .int o_fault, .ref a_o_need, .ref a_o_made, .ref a_o_skillTold, .ref a_o_placeTold, .ref a_o_skips, .ref a_o_wheelTold, .int o_trades, .int o_people, .int o_draftTrades, .int o_draftPeople, .int o_isShut, .ref a_o_tunes, .ref a_o_s, .ref a_o_spare, .ref a_o_kept, .ref a_o_isKept, .ref a_o_makes, .ref a_o_works, .ref a_o_order, .int o_falling])), (a_o_need, .inl (cI, 12, .inl o_need)), (a_o_made, .inl (cI, 12, .inl o_made)), (a_o_skips, .inl (cI, 12, .inl o_skips)), (a_o_tunes, .inl (cI, 3, .inl o_tunes)), (a_o_s, .inl (cI, 105, .inl o_s)), (a_o_spare, .inl (cI, 105, .inl o_spare)), (a_o_makes, .inl (cI, 6, .inl o_makes)), (a_o_works, .inl (cI, 6, .inl o_works))] sz)) (va_Qi (fun (r : Int32) (_ : Unit) => r = r') (gE (dC, dI) [(a_o, .inr (5, [.int o_thrown', .long o_trace, .ref a_o_text, .int o_typed, .int o_next, .int o_token, .int o_place, .int o_value, .int o_fault, .ref a_o_need, .ref a_o_made, .ref a_o_skillTold, .ref a_o_placeTold, .ref a_o_skips, .ref a_o_wheelTold, .int o_trades, .int o_people, .int o_draftTrades, .int o_draftPeople, .int o_isShut, .ref a_o_tunes, .ref a_o_s, .ref a_o_spare, .ref a_o_kept, .ref a_o_isKept, .ref a_o_makes, .ref a_o_works, .ref a_o_order, .int o_falling'])), (a_o_need, .inl (cI, 12, .inl o_need)), (a_o_made, .inl (cI, 12, .inl o_made)), (a_o_skips, .inl (cI, 12, .inl o_skips)), (a_o_tunes, .inl (cI, 3, .inl o_tunes)), (a_o_s, .inl (cI, 105, .inl o_s')), (a_o_spare, .inl (cI, 105, .inl o_spare')), (a_o_makes, .inl (cI, 6, .inl o_makes')), (a_o_works, .inl (cI, 6, .inl o_works'))]) (va_A [(a_o, .inr (5, [.int o_thrown, .long o_trace, .ref a_o_text, .int o_typed, .int o_next, .int o_token, .int o_place, .int o_value, .int o_fault, .ref a_o_need, .ref a_o_made, .ref a_o_skillTold, .ref a_o_placeTold, .ref a_o_skips, .ref a_o_wheelTold, .int o_trades, .int o_people, .int o_draftTrades, .int o_draftPeople, .int o_isShut, .ref a_o_tunes, .ref a_o_s, .ref a_o_spare, .ref a_o_kept, .ref a_o_isKept, .ref a_o_makes, .ref a_o_works, .ref a_o_order, .int o_falling])), (a_o_need, .inl (cI, 12, .inl o_need)), (a_o_made, .inl (cI, 12, .inl o_made)), (a_o_skips, .inl (cI, 12, .inl o_skips)), (a_o_tunes, .inl (cI, 3, .inl o_tunes)), (a_o_s, .inl (cI, 105, .inl o_s)), (a_o_spare, .inl (cI, 105, .inl o_spare)), (a_o_makes, .inl (cI, 6, .inl o_makes)), (a_o_works, .inl (cI, 6, .inl o_works))] sz)) 0 0 (va_A [(a_o, .inr (5, [.int o_thrown, .long o_trace, .ref a_o_text, .int o_typed, .int o_next, .int o_token, .int o_place, .int o_value, .int o_fault, .ref a_o_need, .ref a_o_made, .ref a_o_skillTold, .ref a_o_placeTold, .ref a_o_skips, .ref a_o_wheelTold, .int o_trades, .int o_people, .int o_draftTrades, .int o_draftPeople, .int o_isShut, .ref a_o_tunes, .ref a_o_s, .ref a_o_spare, .ref a_o_kept, .ref a_o_isKept, .ref a_o_makes, .ref a_o_works, .ref a_o_order, .int o_falling])), (a_o_need, .inl (cI, 12, .inl o_need)), (a_o_made, .inl (cI, 12, .inl o_made)), (a_o_skips, .inl (cI, 12, .inl o_skips)), (a_o_tunes, .inl (cI, 3, .inl o_tunes)), (a_o_s, .inl (cI, 105, .inl o_s)), (a_o_spare, .inl (cI, 105, .inl o_spare)), (a_o_makes, .inl (cI, 6, .inl o_makes)), (a_o_works, .inl (cI, 6, .inl o_works))] sz) := by
  refine gMet (cc := cX5_taught) (maxL := 8) (ret := (some .int)) (Qc := fun A => va_Qi (fun (r : Int32) (_ : Unit) => r = r') (gE (dC, dI) [(a_o, .inr (5, [.int o_thrown', .long o_trace, .ref a_o_text, .int o_typed, .int o_next, .int o_token, .int o_place, .int o_value, .int o_fault, .ref a_o_need, .ref a_o_made, .ref a_o_skillTold, .ref a_o_placeTold, .ref a_o_skips, .ref a_o_wheelTold, .int o_trades, .int o_people, .int o_draftTrades, .int o_draftPeople, .int o_isShut, .ref a_o_tunes, .ref a_o_s, .ref a_o_spare, .ref a_o_kept, .ref a_o_isKept, .ref a_o_makes, .ref a_o_works, .ref a_o_order, .int o_falling'])), (a_o_need, .inl (cI, 12, .inl o_need)), (a_o_made, .inl (cI, 12, .inl o_made)), (a_o_skips, .inl (cI, 12, .inl o_skips)), (a_o_tunes, .inl (cI, 3, .inl o_tunes)), (a_o_s, .inl (cI, 105, .inl o_s')), (a_o_spare, .inl (cI, 105, .inl o_spare')), (a_o_makes, .inl (cI, 6, .inl o_makes')), (a_o_works, .inl (cI, 6, .inl o_works'))]) A) (by decide) rfl (Nat.le_of_ble_eq_true rfl) ?_
  intro p e s m below meth c A ls hg0 _ hsz hP hD hS hl
  have hg0 : gX p s m _ meth c cX5_taught 8 (some .int) wsX5_taught RX5 (dC, dI) Z [(cC, .char), (cI, .int), (cZ, .boolean), (cW, .object RX3)] A := hg0
  obtain ⟨hx, hb, hr, hml, hown, hts, hlocks, hA, hK, hN⟩ := id hg0
  subst hsz
  have hF : CallFix p m c cX5_taught 8 s _ wsX5_taught RX5 := ⟨hx, hb, hml, hown, hts⟩
  have hl : lv_has ls 8 [(0, .ref a_o), (1, .int i1), (2, .int i2)] := hl
  unfold fX5_taught at hf
  refine lv_aload_n hx hb dX5_taught_0 rfl (lv_at hl 0 rfl) ?_
  refine lv_iconst (v := (0 : Int32)) hx hb dX5_taught_1 (by decide) ?_
  refine va_put (D := (dC, dI)) (ci := 5) (v := .int (0 : Int32)) (ty := .int) (C := RX5) (T := TX5) (N := 29) hx hb hts uX5_taught_X5 tyX5 tyX5_ok nmX5 hown hK hP hD hS 0 rfl rfl 0 (by decide) (hts _ mX5_taught_0) (fun _ h9 => h9) rfl (by decide +kernel) rfl rfl (Nat.le_of_ble_eq_true rfl) dX5_taught_2 (fun H locs hP hD hS => ?_)
  have hP : va_P (dC, dI) vwCl [(a_o, .inr (5, [.int (0 : Int32), .long o_trace, .ref a_o_text, .int o_typed, .int o_next, .int o_token, .int o_place, .int o_value, .int o_fault, .ref a_o_need, .ref a_o_made, .ref a_o_skillTold, .ref a_o_placeTold, .ref a_o_skips, .ref a_o_wheelTold, .int o_trades, .int o_people, .int o_draftTrades, .int o_draftPeople, .int o_isShut, .ref a_o_tunes, .ref a_o_s, .ref a_o_spare, .ref a_o_kept, .ref a_o_isKept, .ref a_o_makes, .ref a_o_works, .ref a_o_order, .int o_falling])), (a_o_need, .inl (cI, 12, .inl o_need)), (a_o_made, .inl (cI, 12, .inl o_made)), (a_o_skips, .inl (cI, 12, .inl o_skips)), (a_o_tunes, .inl (cI, 3, .inl o_tunes)), (a_o_s, .inl (cI, 105, .inl o_s)), (a_o_spare, .inl (cI, 105, .inl o_spare)), (a_o_makes, .inl (cI, 6, .inl o_makes)), (a_o_works, .inl (cI, 6, .inl o_works))] H := hP
  have hD : va_D A [(a_o, .inr (5, [.int (0 : Int32), .long o_trace, .ref a_o_text, .int o_typed, .int o_next, .int o_token, .int o_place, .int o_value, .int o_fault, .ref a_o_need, .ref a_o_made, .ref a_o_skillTold, .ref a_o_placeTold, .ref a_o_skips, .ref a_o_wheelTold, .int o_trades, .int o_people, .int o_draftTrades, .int o_draftPeople, .int o_isShut, .ref a_o_tunes, .ref a_o_s, .ref a_o_spare, .ref a_o_kept, .ref a_o_isKept, .ref a_o_makes, .ref a_o_works, .ref a_o_order, .int o_falling])), (a_o_need, .inl (cI, 12, .inl o_need)), (a_o_made, .inl (cI, 12, .inl o_made)), (a_o_skips, .inl (cI, 12, .inl o_skips)), (a_o_tunes, .inl (cI, 3, .inl o_tunes)), (a_o_s, .inl (cI, 105, .inl o_s)), (a_o_spare, .inl (cI, 105, .inl o_spare)), (a_o_makes, .inl (cI, 6, .inl o_makes)), (a_o_works, .inl (cI, 6, .inl o_works))] := hD
  refine lv_iload_n hx hb dX5_taught_5 rfl (lv_at hl 1 rfl) ?_
  obtain ⟨r_1, hc, hf⟩ := pb1 hf
  refine gCi (va_runS (As := [.int i1]) (rest := []) hF (kX5_areRounds l dC dI Z cC cI cZ cW  _  i1 N r_1 hc) (cwS 1 hts gX5_taught_X5_areRounds rfl rfl rfl (by decide +kernel) ⟨Nat.le_of_ble_eq_true rfl, Nat.le_of_ble_eq_true rfl⟩) (gPS (wc := []) hK hN hA hS hP hD [] rfl rfl) rfl rfl hl.1 rfl (lv_room (Nat.le_of_ble_eq_true rfl)) dX5_taught_6 ⟨Nat.zero_le _, Nat.zero_le _⟩) hP hD hS hA [] rfl rfl rfl (fun H locs hP hD hS => ?_)
  have hP : va_P (dC, dI) vwCl [(a_o, .inr (5, [.int (0 : Int32), .long o_trace, .ref a_o_text, .int o_typed, .int o_next, .int o_token, .int o_place, .int o_value, .int o_fault, .ref a_o_need, .ref a_o_made, .ref a_o_skillTold, .ref a_o_placeTold, .ref a_o_skips, .ref a_o_wheelTold, .int o_trades, .int o_people, .int o_draftTrades, .int o_draftPeople, .int o_isShut, .ref a_o_tunes, .ref a_o_s, .ref a_o_spare, .ref a_o_kept, .ref a_o_isKept, .ref a_o_makes, .ref a_o_works, .ref a_o_order, .int o_falling])), (a_o_need, .inl (cI, 12, .inl o_need)), (a_o_made, .inl (cI, 12, .inl o_made)), (a_o_skips, .inl (cI, 12, .inl o_skips)), (a_o_tunes, .inl (cI, 3, .inl o_tunes)), (a_o_s, .inl (cI, 105, .inl o_s)), (a_o_spare, .inl (cI, 105, .inl o_spare)), (a_o_makes, .inl (cI, 6, .inl o_makes)), (a_o_works, .inl (cI, 6, .inl o_works))] H := hP
  have hD : va_D A [(a_o, .inr (5, [.int (0 : Int32), .long o_trace, .ref a_o_text, .int o_typed, .int o_next, .int o_token, .int o_place, .int o_value, .int o_fault, .ref a_o_need, .ref a_o_made, .ref a_o_skillTold, .ref a_o_placeTold, .ref a_o_skips, .ref a_o_wheelTold, .int o_trades, .int o_people, .int o_draftTrades, .int o_draftPeople, .int o_isShut, .ref a_o_tunes, .ref a_o_s, .ref a_o_spare, .ref a_o_kept, .ref a_o_isKept, .ref a_o_makes, .ref a_o_works, .ref a_o_order, .int o_falling])), (a_o_need, .inl (cI, 12, .inl o_need)), (a_o_made, .inl (cI, 12, .inl o_made)), (a_o_skips, .inl (cI, 12, .inl o_skips)), (a_o_tunes, .inl (cI, 3, .inl o_tunes)), (a_o_s, .inl (cI, 105, .inl o_s)), (a_o_spare, .inl (cI, 105, .inl o_spare)), (a_o_makes, .inl (cI, 6, .inl o_makes)), (a_o_works, .inl (cI, 6, .inl o_works))] := hD
  refine lv_if_eq (tgt := 21) hx hb dX5_taught_9 (by decide) (fun c_2 => ?_) (fun c_2 => ?_)
  · have hf := pit hf c_2
    refine lv_iconst (v := (-1 : Int32)) hx hb dX5_taught_21 (by decide) ?_
    have q0 := Option.some.inj hf
    obtain ⟨e0, q1⟩ := Prod.mk.inj q0
    obtain ⟨e1, q2⟩ := Prod.mk.inj q1
    obtain ⟨e2, q3⟩ := Prod.mk.inj q2
    obtain ⟨e3, q4⟩ := Prod.mk.inj q3
    obtain ⟨e4, q5⟩ := Prod.mk.inj q4
    obtain ⟨e5, q6⟩ := Prod.mk.inj q5
    subst e0
    subst e1
    subst e2
    subst e3
    subst e4
    subst e5
    subst q6
    exact gRi hx hb hr hlocks hP hS dX5_taught_22
  · have hf := pif hf c_2
    refine lv_iload_n hx hb dX5_taught_12 rfl (lv_at hl 2 rfl) ?_
    refine lv_iconst (v := (0 : Int32)) hx hb dX5_taught_13 (by decide) ?_
    refine lv_iconst (v := (1 : Int32)) hx hb dX5_taught_14 (by decide) ?_
    obtain ⟨r_3, hc, hf⟩ := pb1 hf
    refine gCi (va_runS (As := [.int i2, .int (0 : Int32), .int (1 : Int32)]) (rest := []) hF (kX5_in l dC dI Z cC cI cZ cW  _  i2 (0 : Int32) (1 : Int32) N r_3 hc) (cwS 3 hts gX5_taught_X5_in rfl rfl rfl (by decide +kernel) ⟨Nat.le_of_ble_eq_true rfl, Nat.le_of_ble_eq_true rfl⟩) (gPS (wc := []) hK hN hA hS hP hD [] rfl rfl) rfl rfl hl.1 rfl (lv_room (Nat.le_of_ble_eq_true rfl)) dX5_taught_15 ⟨Nat.zero_le _, Nat.zero_le _⟩) hP hD hS hA [] rfl rfl rfl (fun H locs hP hD hS => ?_)
    have hP : va_P (dC, dI) vwCl [(a_o, .inr (5, [.int (0 : Int32), .long o_trace, .ref a_o_text, .int o_typed, .int o_next, .int o_token, .int o_place, .int o_value, .int o_fault, .ref a_o_need, .ref a_o_made, .ref a_o_skillTold, .ref a_o_placeTold, .ref a_o_skips, .ref a_o_wheelTold, .int o_trades, .int o_people, .int o_draftTrades, .int o_draftPeople, .int o_isShut, .ref a_o_tunes, .ref a_o_s, .ref a_o_spare, .ref a_o_kept, .ref a_o_isKept, .ref a_o_makes, .ref a_o_works, .ref a_o_order, .int o_falling])), (a_o_need, .inl (cI, 12, .inl o_need)), (a_o_made, .inl (cI, 12, .inl o_made)), (a_o_skips, .inl (cI, 12, .inl o_skips)), (a_o_tunes, .inl (cI, 3, .inl o_tunes)), (a_o_s, .inl (cI, 105, .inl o_s)), (a_o_spare, .inl (cI, 105, .inl o_spare)), (a_o_makes, .inl (cI, 6, .inl o_makes)), (a_o_works, .inl (cI, 6, .inl o_works))] H := hP
    have hD : va_D A [(a_o, .inr (5, [.int (0 : Int32), .long o_trace, .ref a_o_text, .int o_typed, .int o_next, .int o_token, .int o_place, .int o_value, .int o_fault, .ref a_o_need, .ref a_o_made, .ref a_o_skillTold, .ref a_o_placeTold, .ref a_o_skips, .ref a_o_wheelTold, .int o_trades, .int o_people, .int o_draftTrades, .int o_draftPeople, .int o_isShut, .ref a_o_tunes, .ref a_o_s, .ref a_o_spare, .ref a_o_kept, .ref a_o_isKept, .ref a_o_makes, .ref a_o_works, .ref a_o_order, .int o_falling])), (a_o_need, .inl (cI, 12, .inl o_need)), (a_o_made, .inl (cI, 12, .inl o_made)), (a_o_skips, .inl (cI, 12, .inl o_skips)), (a_o_tunes, .inl (cI, 3, .inl o_tunes)), (a_o_s, .inl (cI, 105, .inl o_s)), (a_o_spare, .inl (cI, 105, .inl o_spare)), (a_o_makes, .inl (cI, 6, .inl o_makes)), (a_o_works, .inl (cI, 6, .inl o_works))] := hD
    refine lv_if_ne (tgt := 23) hx hb dX5_taught_18 (by decide) (fun c_4 => ?_) (fun c_4 => ?_)
    · have hf := pif hf c_4
      refine lv_aload_n hx hb dX5_taught_23 rfl (lv_at hl 0 rfl) ?_
      refine va_get (D := (dC, dI)) (ci := 5) (v := .int o_trades) (C := RX5) (T := TX5) (N := 29) hx hb hts uX5_taught_X5 hown hK hP 0 rfl rfl 15 (by decide) (hts _ mX5_taught_1) (fun _ h9 => h9) rfl dX5_taught_24 ?_
      refine lv_if_ne (tgt := 33) hx hb dX5_taught_27 (by decide) (fun c_5 => ?_) (fun c_5 => ?_)
      · have hf := pif hf c_5
        refine lv_aload_n hx hb dX5_taught_33 rfl (lv_at hl 0 rfl) ?_
        refine lv_iconst (v := (1 : Int32)) hx hb dX5_taught_34 (by decide) ?_
        obtain ⟨o_s_6, o_spare_7, hc, hf⟩ := pb2 hf
        refine gCv (va_runV (As := [.int (1 : Int32)]) (rest := []) hF (kX5_aside l dC dI Z cC cI cZ cW a_o a_o_text a_o_need a_o_made a_o_skillTold a_o_placeTold a_o_skips a_o_wheelTold a_o_tunes a_o_s a_o_spare a_o_kept a_o_isKept a_o_makes a_o_works a_o_order _ (0 : Int32) o_trace o_typed o_next o_token o_place o_value o_fault o_trades o_people o_draftTrades o_draftPeople o_isShut o_falling o_s o_spare (1 : Int32) N o_s_6 o_spare_7 hc) (cwV 1 hts gX5_taught_X5_aside rfl rfl rfl (by decide +kernel) ⟨Nat.le_of_ble_eq_true rfl, Nat.le_of_ble_eq_true rfl⟩) (gPV (wc := [(a_o, .inr (5, [.int (0 : Int32), .long o_trace, .ref a_o_text, .int o_typed, .int o_next, .int o_token, .int o_place, .int o_value, .int o_fault, .ref a_o_need, .ref a_o_made, .ref a_o_skillTold, .ref a_o_placeTold, .ref a_o_skips, .ref a_o_wheelTold, .int o_trades, .int o_people, .int o_draftTrades, .int o_draftPeople, .int o_isShut, .ref a_o_tunes, .ref a_o_s, .ref a_o_spare, .ref a_o_kept, .ref a_o_isKept, .ref a_o_makes, .ref a_o_works, .ref a_o_order, .int o_falling])), (a_o_s, .inl (cI, 105, .inl o_s)), (a_o_spare, .inl (cI, 105, .inl o_spare))]) hK hN hA hS hP hD [0, 5, 6] rfl rfl (q0 := 0) (ci := 5) rfl rfl rfl) rfl rfl hl.1 rfl (lv_room (Nat.le_of_ble_eq_true rfl)) dX5_taught_35 ⟨Nat.zero_le _, Nat.zero_le _⟩) hP hD hS hA [0, 5, 6] rfl rfl rfl (fun H locs hP hD hS => ?_)
        have hP : va_P (dC, dI) vwCl [(a_o, .inr (5, [.int (0 : Int32), .long o_trace, .ref a_o_text, .int o_typed, .int o_next, .int o_token, .int o_place, .int o_value, .int o_fault, .ref a_o_need, .ref a_o_made, .ref a_o_skillTold, .ref a_o_placeTold, .ref a_o_skips, .ref a_o_wheelTold, .int o_trades, .int o_people, .int o_draftTrades, .int o_draftPeople, .int o_isShut, .ref a_o_tunes, .ref a_o_s, .ref a_o_spare, .ref a_o_kept, .ref a_o_isKept, .ref a_o_makes, .ref a_o_works, .ref a_o_order, .int o_falling])), (a_o_need, .inl (cI, 12, .inl o_need)), (a_o_made, .inl (cI, 12, .inl o_made)), (a_o_skips, .inl (cI, 12, .inl o_skips)), (a_o_tunes, .inl (cI, 3, .inl o_tunes)), (a_o_s, .inl (cI, 105, .inl o_s_6)), (a_o_spare, .inl (cI, 105, .inl o_spare_7)), (a_o_makes, .inl (cI, 6, .inl o_makes)), (a_o_works, .inl (cI, 6, .inl o_works))] H := hP
        have hD : va_D A [(a_o, .inr (5, [.int (0 : Int32), .long o_trace, .ref a_o_text, .int o_typed, .int o_next, .int o_token, .int o_place, .int o_value, .int o_fault, .ref a_o_need, .ref a_o_made, .ref a_o_skillTold, .ref a_o_placeTold, .ref a_o_skips, .ref a_o_wheelTold, .int o_trades, .int o_people, .int o_draftTrades, .int o_draftPeople, .int o_isShut, .ref a_o_tunes, .ref a_o_s, .ref a_o_spare, .ref a_o_kept, .ref a_o_isKept, .ref a_o_makes, .ref a_o_works, .ref a_o_order, .int o_falling])), (a_o_need, .inl (cI, 12, .inl o_need)), (a_o_made, .inl (cI, 12, .inl o_made)), (a_o_skips, .inl (cI, 12, .inl o_skips)), (a_o_tunes, .inl (cI, 3, .inl o_tunes)), (a_o_s, .inl (cI, 105, .inl o_s_6)), (a_o_spare, .inl (cI, 105, .inl o_spare_7)), (a_o_makes, .inl (cI, 6, .inl o_makes)), (a_o_works, .inl (cI, 6, .inl o_works))] := hD
        refine lv_aload_n hx hb dX5_taught_38 rfl (lv_at hl 0 rfl) ?_
        refine lv_iload_n hx hb dX5_taught_39 rfl (lv_at hl 1 rfl) ?_
        obtain ⟨r_8, o_falling_9, o_s_10, o_makes_11, o_works_12, hc, hf⟩ := pb5 hf
        refine gCi (va_runV (As := [.int i1]) (rest := []) hF (kX5_lacksIn l dC dI Z cC cI cZ cW a_o a_o_text a_o_need a_o_made a_o_skillTold a_o_placeTold a_o_skips a_o_wheelTold a_o_tunes a_o_s a_o_spare a_o_kept a_o_isKept a_o_makes a_o_works a_o_order _ (0 : Int32) o_trace o_typed o_next o_token o_place o_value o_fault o_trades o_people o_draftTrades o_draftPeople o_isShut o_falling o_need o_made o_skips o_tunes o_s_6 o_makes o_works i1 N r_8 o_falling_9 o_s_10 o_makes_11 o_works_12 hc) (cwV 1 hts gX5_taught_X5_lacksIn rfl rfl rfl (by decide +kernel) ⟨Nat.le_of_ble_eq_true rfl, Nat.le_of_ble_eq_true rfl⟩) (gPV (wc := [(a_o, .inr (5, [.int (0 : Int32), .long o_trace, .ref a_o_text, .int o_typed, .int o_next, .int o_token, .int o_place, .int o_value, .int o_fault, .ref a_o_need, .ref a_o_made, .ref a_o_skillTold, .ref a_o_placeTold, .ref a_o_skips, .ref a_o_wheelTold, .int o_trades, .int o_people, .int o_draftTrades, .int o_draftPeople, .int o_isShut, .ref a_o_tunes, .ref a_o_s, .ref a_o_spare, .ref a_o_kept, .ref a_o_isKept, .ref a_o_makes, .ref a_o_works, .ref a_o_order, .int o_falling])), (a_o_need, .inl (cI, 12, .inl o_need)), (a_o_made, .inl (cI, 12, .inl o_made)), (a_o_skips, .inl (cI, 12, .inl o_skips)), (a_o_tunes, .inl (cI, 3, .inl o_tunes)), (a_o_s, .inl (cI, 105, .inl o_s_6)), (a_o_makes, .inl (cI, 6, .inl o_makes)), (a_o_works, .inl (cI, 6, .inl o_works))]) hK hN hA hS hP hD [0, 1, 2, 3, 4, 5, 7, 8] rfl rfl (q0 := 0) (ci := 5) rfl rfl rfl) rfl rfl hl.1 rfl (lv_room (Nat.le_of_ble_eq_true rfl)) dX5_taught_40 ⟨Nat.zero_le _, Nat.zero_le _⟩) hP hD hS hA [0, 1, 2, 3, 4, 5, 7, 8] rfl rfl rfl (fun H locs hP hD hS => ?_)
        have hP : va_P (dC, dI) vwCl [(a_o, .inr (5, [.int (0 : Int32), .long o_trace, .ref a_o_text, .int o_typed, .int o_next, .int o_token, .int o_place, .int o_value, .int o_fault, .ref a_o_need, .ref a_o_made, .ref a_o_skillTold, .ref a_o_placeTold, .ref a_o_skips, .ref a_o_wheelTold, .int o_trades, .int o_people, .int o_draftTrades, .int o_draftPeople, .int o_isShut, .ref a_o_tunes, .ref a_o_s, .ref a_o_spare, .ref a_o_kept, .ref a_o_isKept, .ref a_o_makes, .ref a_o_works, .ref a_o_order, .int o_falling_9])), (a_o_need, .inl (cI, 12, .inl o_need)), (a_o_made, .inl (cI, 12, .inl o_made)), (a_o_skips, .inl (cI, 12, .inl o_skips)), (a_o_tunes, .inl (cI, 3, .inl o_tunes)), (a_o_s, .inl (cI, 105, .inl o_s_10)), (a_o_spare, .inl (cI, 105, .inl o_spare_7)), (a_o_makes, .inl (cI, 6, .inl o_makes_11)), (a_o_works, .inl (cI, 6, .inl o_works_12))] H := hP
        have hD : va_D A [(a_o, .inr (5, [.int (0 : Int32), .long o_trace, .ref a_o_text, .int o_typed, .int o_next, .int o_token, .int o_place, .int o_value, .int o_fault, .ref a_o_need, .ref a_o_made, .ref a_o_skillTold, .ref a_o_placeTold, .ref a_o_skips, .ref a_o_wheelTold, .int o_trades, .int o_people, .int o_draftTrades, .int o_draftPeople, .int o_isShut, .ref a_o_tunes, .ref a_o_s, .ref a_o_spare, .ref a_o_kept, .ref a_o_isKept, .ref a_o_makes, .ref a_o_works, .ref a_o_order, .int o_falling_9])), (a_o_need, .inl (cI, 12, .inl o_need)), (a_o_made, .inl (cI, 12, .inl o_made)), (a_o_skips, .inl (cI, 12, .inl o_skips)), (a_o_tunes, .inl (cI, 3, .inl o_tunes)), (a_o_s, .inl (cI, 105, .inl o_s_10)), (a_o_spare, .inl (cI, 105, .inl o_spare_7)), (a_o_makes, .inl (cI, 6, .inl o_makes_11)), (a_o_works, .inl (cI, 6, .inl o_works_12))] := hD
        refine lv_istore_n (lv' := [(3, .int r_8), (0, .ref a_o), (1, .int i1), (2, .int i2)]) hx hb dX5_taught_43 rfl hl (by decide) rfl (fun ls hl => ?_)
        refine lv_aload_n hx hb dX5_taught_44 rfl (lv_at hl 1 rfl) ?_
        refine lv_iconst (v := (0 : Int32)) hx hb dX5_taught_45 (by decide) ?_
        obtain ⟨o_s_13, o_spare_14, hc, hf⟩ := pb2 hf
        refine gCv (va_runV (As := [.int (0 : Int32)]) (rest := []) hF (kX5_aside l dC dI Z cC cI cZ cW a_o a_o_text a_o_need a_o_made a_o_skillTold a_o_placeTold a_o_skips a_o_wheelTold a_o_tunes a_o_s a_o_spare a_o_kept a_o_isKept a_o_makes a_o_works a_o_order _ (0 : Int32) o_trace o_typed o_next o_token o_place o_value o_fault o_trades o_people o_draftTrades o_draftPeople o_isShut o_falling_9 o_s_10 o_spare_7 (0 : Int32) N o_s_13 o_spare_14 hc) (cwV 1 hts gX5_taught_X5_aside rfl rfl rfl (by decide +kernel) ⟨Nat.le_of_ble_eq_true rfl, Nat.le_of_ble_eq_true rfl⟩) (gPV (wc := [(a_o, .inr (5, [.int (0 : Int32), .long o_trace, .ref a_o_text, .int o_typed, .int o_next, .int o_token, .int o_place, .int o_value, .int o_fault, .ref a_o_need, .ref a_o_made, .ref a_o_skillTold, .ref a_o_placeTold, .ref a_o_skips, .ref a_o_wheelTold, .int o_trades, .int o_people, .int o_draftTrades, .int o_draftPeople, .int o_isShut, .ref a_o_tunes, .ref a_o_s, .ref a_o_spare, .ref a_o_kept, .ref a_o_isKept, .ref a_o_makes, .ref a_o_works, .ref a_o_order, .int o_falling_9])), (a_o_s, .inl (cI, 105, .inl o_s_10)), (a_o_spare, .inl (cI, 105, .inl o_spare_7))]) hK hN hA hS hP hD [0, 5, 6] rfl rfl (q0 := 0) (ci := 5) rfl rfl rfl) rfl rfl hl.1 rfl (lv_room (Nat.le_of_ble_eq_true rfl)) dX5_taught_46 ⟨Nat.zero_le _, Nat.zero_le _⟩) hP hD hS hA [0, 5, 6] rfl rfl rfl (fun H locs hP hD hS => ?_)
        have hP : va_P (dC, dI) vwCl [(a_o, .inr (5, [.int (0 : Int32), .long o_trace, .ref a_o_text, .int o_typed, .int o_next, .int o_token, .int o_place, .int o_value, .int o_fault, .ref a_o_need, .ref a_o_made, .ref a_o_skillTold, .ref a_o_placeTold, .ref a_o_skips, .ref a_o_wheelTold, .int o_trades, .int o_people, .int o_draftTrades, .int o_draftPeople, .int o_isShut, .ref a_o_tunes, .ref a_o_s, .ref a_o_spare, .ref a_o_kept, .ref a_o_isKept, .ref a_o_makes, .ref a_o_works, .ref a_o_order, .int o_falling_9])), (a_o_need, .inl (cI, 12, .inl o_need)), (a_o_made, .inl (cI, 12, .inl o_made)), (a_o_skips, .inl (cI, 12, .inl o_skips)), (a_o_tunes, .inl (cI, 3, .inl o_tunes)), (a_o_s, .inl (cI, 105, .inl o_s_13)), (a_o_spare, .inl (cI, 105, .inl o_spare_14)), (a_o_makes, .inl (cI, 6, .inl o_makes_11)), (a_o_works, .inl (cI, 6, .inl o_works_12))] H := hP
        have hD : va_D A [(a_o, .inr (5, [.int (0 : Int32), .long o_trace, .ref a_o_text, .int o_typed, .int o_next, .int o_token, .int o_place, .int o_value, .int o_fault, .ref a_o_need, .ref a_o_made, .ref a_o_skillTold, .ref a_o_placeTold, .ref a_o_skips, .ref a_o_wheelTold, .int o_trades, .int o_people, .int o_draftTrades, .int o_draftPeople, .int o_isShut, .ref a_o_tunes, .ref a_o_s, .ref a_o_spare, .ref a_o_kept, .ref a_o_isKept, .ref a_o_makes, .ref a_o_works, .ref a_o_order, .int o_falling_9])), (a_o_need, .inl (cI, 12, .inl o_need)), (a_o_made, .inl (cI, 12, .inl o_made)), (a_o_skips, .inl (cI, 12, .inl o_skips)), (a_o_tunes, .inl (cI, 3, .inl o_tunes)), (a_o_s, .inl (cI, 105, .inl o_s_13)), (a_o_spare, .inl (cI, 105, .inl o_spare_14)), (a_o_makes, .inl (cI, 6, .inl o_makes_11)), (a_o_works, .inl (cI, 6, .inl o_works_12))] := hD
        refine lv_bipush (v := (-9 : Int32)) hx hb dX5_taught_49 (by decide) ?_
        refine lv_istore (lv' := [(4, .int (-9 : Int32)), (3, .int r_8), (0, .ref a_o), (1, .int i1), (2, .int i2)]) hx hb dX5_taught_51 hl (by decide) rfl (fun ls hl => ?_)
        refine lv_iconst (v := (0 : Int32)) hx hb dX5_taught_53 (by decide) ?_
        refine lv_istore (lv' := [(5, .int (0 : Int32)), (4, .int (-9 : Int32)), (3, .int r_8), (0, .ref a_o), (1, .int i1), (2, .int i2)]) hx hb dX5_taught_54 hl (by decide) rfl (fun ls hl => ?_)
        obtain ⟨o_falling_15, o_s_16, o_spare_17, o_makes_18, o_works_19, l3_20, l4_21, l5_22, hc, hf⟩ := pb8 hf
        refine wX5_taught_56 hg0 a_o a_o_text a_o_need a_o_made a_o_skillTold a_o_placeTold a_o_skips a_o_wheelTold a_o_tunes a_o_s a_o_spare a_o_kept a_o_isKept a_o_makes a_o_works a_o_order (0 : Int32) o_trace o_typed o_next o_token o_place o_value o_fault o_trades o_people o_draftTrades o_draftPeople o_isShut o_need o_made o_skips o_tunes i1 i2 N N o_falling_9 o_s_13 o_spare_14 o_makes_11 o_works_12 r_8 (-9 : Int32) (0 : Int32) o_falling_15 o_s_16 o_spare_17 o_makes_18 o_works_19 l3_20 l4_21 l5_22 hc _ _ _ hP hD hS (lv_sub hl [3, 4, 5, 2, 1, 0] rfl) (fun H locs ls hP hD hS hl => ?_)
        refine lv_iload hx hb dX5_taught_176 (lv_at hl 2 rfl) ?_
        refine lv_bipush (v := (-9 : Int32)) hx hb dX5_taught_178 (by decide) ?_
        refine lv_icmp_eq (tgt := 187) hx hb dX5_taught_180 (by decide) (fun c_23 => ?_) (fun c_23 => ?_)
        · have hf := pit hf c_23
          refine lv_iload hx hb dX5_taught_187 (lv_at hl 2 rfl) ?_
          refine lv_goto (tgt := 193) hx hb dX5_taught_189 (by decide) ?_
          have q0 := Option.some.inj hf
          obtain ⟨e0, q1⟩ := Prod.mk.inj q0
          obtain ⟨e1, q2⟩ := Prod.mk.inj q1
          obtain ⟨e2, q3⟩ := Prod.mk.inj q2
          obtain ⟨e3, q4⟩ := Prod.mk.inj q3
          obtain ⟨e4, q5⟩ := Prod.mk.inj q4
          obtain ⟨e5, q6⟩ := Prod.mk.inj q5
          subst e0
          subst e1
          subst e2
          subst e3
          subst e4
          subst e5
          subst q6
          exact gRi hx hb hr hlocks hP hS dX5_taught_193
        · have hf := pif hf c_23
          refine lv_iload_n hx hb dX5_taught_183 rfl (lv_at hl 0 rfl) ?_
          refine lv_if_ne (tgt := 192) hx hb dX5_taught_184 (by decide) (fun c_24 => ?_) (fun c_24 => ?_)
          · have hf := pif hf c_24
            refine lv_iload_n hx hb dX5_taught_192 rfl (lv_at hl 1 rfl) ?_
            have q0 := Option.some.inj hf
            obtain ⟨e0, q1⟩ := Prod.mk.inj q0
            obtain ⟨e1, q2⟩ := Prod.mk.inj q1
            obtain ⟨e2, q3⟩ := Prod.mk.inj q2
            obtain ⟨e3, q4⟩ := Prod.mk.inj q3
            obtain ⟨e4, q5⟩ := Prod.mk.inj q4
            obtain ⟨e5, q6⟩ := Prod.mk.inj q5
            subst e0
            subst e1
            subst e2
            subst e3
            subst e4
            subst e5
            subst q6
            exact gRi hx hb hr hlocks hP hS dX5_taught_193
          · have hf := pit hf c_24
            refine lv_iload hx hb dX5_taught_187 (lv_at hl 2 rfl) ?_
            refine lv_goto (tgt := 193) hx hb dX5_taught_189 (by decide) ?_
            have q0 := Option.some.inj hf
            obtain ⟨e0, q1⟩ := Prod.mk.inj q0
            obtain ⟨e1, q2⟩ := Prod.mk.inj q1
            obtain ⟨e2, q3⟩ := Prod.mk.inj q2
            obtain ⟨e3, q4⟩ := Prod.mk.inj q3
            obtain ⟨e4, q5⟩ := Prod.mk.inj q4
            obtain ⟨e5, q6⟩ := Prod.mk.inj q5
            subst e0
            subst e1
            subst e2
            subst e3
            subst e4
            subst e5
            subst q6
            exact gRi hx hb hr hlocks hP hS dX5_taught_193
      · have hf := pit hf c_5
        refine lv_bipush (v := (-2 : Int32)) hx hb dX5_taught_30 (by decide) ?_
        have q0 := Option.some.inj hf
        obtain ⟨e0, q1⟩ := Prod.mk.inj q0
        obtain ⟨e1, q2⟩ := Prod.mk.inj q1
        obtain ⟨e2, q3⟩ := Prod.mk.inj q2
        obtain ⟨e3, q4⟩ := Prod.mk.inj q3
        obtain ⟨e4, q5⟩ := Prod.mk.inj q4
        obtain ⟨e5, q6⟩ := Prod.mk.inj q5
        subst e0
        subst e1
        subst e2
        subst e3
        subst e4
        subst e5
        subst q6
        exact gRi hx hb hr hlocks hP hS dX5_taught_32
    · have hf := pit hf c_4
      refine lv_iconst (v := (-1 : Int32)) hx hb dX5_taught_21 (by decide) ?_
      have q0 := Option.some.inj hf
      obtain ⟨e0, q1⟩ := Prod.mk.inj q0
      obtain ⟨e1, q2⟩ := Prod.mk.inj q1
      obtain ⟨e2, q3⟩ := Prod.mk.inj q2
      obtain ⟨e3, q4⟩ := Prod.mk.inj q3
      obtain ⟨e4, q5⟩ := Prod.mk.inj q4
      obtain ⟨e5, q6⟩ := Prod.mk.inj q5
      subst e0
      subst e1
      subst e2
      subst e3
      subst e4
      subst e5
      subst q6
      exact gRi hx hb hr hlocks hP hS dX5_taught_22
abbrev rmX5_standsIn : Room := { frames := 5, cells := 0, slots := 0, locals := 117 }
set_option maxRecDepth 20000 in
theorem uX5_standsIn_X5 : ∀ w ∈ wsX50, w ∈ wsX5_standsIn := by decide +kernel
set_option maxRecDepth 20000 in
theorem mX5_standsIn_0 : (Cond.fieldLink RX5 59 "TradeWheelModel" "thrown" "I" : Cond) ∈ wsX5_standsIn := by decide +kernel
set_option maxRecDepth 20000 in
theorem mX5_standsIn_1 : (Cond.fieldLink RX5 137 "TradeWheelModel" "trades" "I" : Cond) ∈ wsX5_standsIn := by decide +kernel
set_option maxRecDepth 20000 in
theorem mX5_standsIn_2 : (Cond.fieldLink RX5 34 "TradeWheelModel" "s" "[I" : Cond) ∈ wsX5_standsIn := by decide +kernel
set_option maxRecDepth 20000 in
theorem mX5_standsIn_3 : (Cond.fieldLink RX5 140 "TradeWheelModel" "people" "I" : Cond) ∈ wsX5_standsIn := by decide +kernel
set_option maxHeartbeats 4000000 in
set_option maxRecDepth 100000 in
theorem wX5_standsIn_67 {p : Program} {l : Launch} {e : Env} {s : State} {m : MethodId} {args : Array Value} {below : List Frame} {meth : Method} {c : Code} {Q : State → Prop} {A : Nat → Prop} {dC : Nat → ClassId} {dI : Nat → Nat → Nat} {Z : gZ} {cC cI cZ cW : ClassId} (hg0 : gX p s m args meth c cX5_standsIn 8 (some .int) wsX5_standsIn RX5 (dC, dI) Z [(cC, .char), (cI, .int), (cZ, .boolean), (cW, .object RX3)] A) (a_o a_o_text a_o_need a_o_made a_o_skillTold a_o_placeTold a_o_skips a_o_wheelTold a_o_tunes a_o_s a_o_spare a_o_kept a_o_isKept a_o_makes a_o_works a_o_order : Nat) (o_thrown : Int32) (o_trace : Int64) (o_typed : Int32) (o_next : Int32) (o_token : Int32) (o_place : Int32) (o_value : Int32) (o_fault : Int32) (o_trades : Int32) (o_people : Int32) (o_draftTrades : Int32) (o_draftPeople : Int32) (o_isShut : Int32) (o_need : Nat → Int32) (o_made : Nat → Int32) (o_skips : Nat → Int32) (o_tunes : Nat → Int32) (l1 : Int32) (l2 : Int32) (N : Nat) : ∀ (n : Nat) (o_falling : Int32) (o_s : Nat → Int32) (o_spare : Nat → Int32) (o_makes : Nat → Int32) (o_works : Nat → Int32) (l3 : Int32) (l4 : Int32) (l5 : Int32) (o_falling' : Int32) (o_s' : Nat → Int32) (o_spare' : Nat → Int32) (o_makes' : Nat → Int32) (o_works' : Nat → Int32) (l3' : Int32) (l4' : Int32) (l5' : Int32), fX5_standsIn_67 N o_trades o_people o_need o_made o_skips o_tunes l1 l2 n o_falling o_s o_spare o_makes o_works l3 l4 l5 = some (o_falling', o_s', o_spare', o_makes', o_works', l3', l4', l5') → ∀ (H : Heap) (locs : List Loc) (ls : Array Slot), va_P (dC, dI) vwCl [(a_o, .inr (5, [.int o_thrown, .long o_trace, .ref a_o_text, .int o_typed, .int o_next, .int o_token, .int o_place, .int o_value, .int o_fault, .ref a_o_need, .ref a_o_made, .ref a_o_skillTold, .ref a_o_placeTold, .ref a_o_skips, .ref a_o_wheelTold, .int o_trades, .int o_people, .int o_draftTrades, .int o_draftPeople, .int o_isShut, .ref a_o_tunes, .ref a_o_s, .ref a_o_spare, .ref a_o_kept, .ref a_o_isKept, .ref a_o_makes, .ref a_o_works, .ref a_o_order, .int o_falling])), (a_o_need, .inl (cI, 12, .inl o_need)), (a_o_made, .inl (cI, 12, .inl o_made)), (a_o_skips, .inl (cI, 12, .inl o_skips)), (a_o_tunes, .inl (cI, 3, .inl o_tunes)), (a_o_s, .inl (cI, 105, .inl o_s)), (a_o_spare, .inl (cI, 105, .inl o_spare)), (a_o_makes, .inl (cI, 6, .inl o_makes)), (a_o_works, .inl (cI, 6, .inl o_works))] H → va_D A [(a_o, .inr (5, [.int o_thrown, .long o_trace, .ref a_o_text, .int o_typed, .int o_next, .int o_token, .int o_place, .int o_value, .int o_fault, .ref a_o_need, .ref a_o_made, .ref a_o_skillTold, .ref a_o_placeTold, .ref a_o_skips, .ref a_o_wheelTold, .int o_trades, .int o_people, .int o_draftTrades, .int o_draftPeople, .int o_isShut, .ref a_o_tunes, .ref a_o_s, .ref a_o_spare, .ref a_o_kept, .ref a_o_isKept, .ref a_o_makes, .ref a_o_works, .ref a_o_order, .int o_falling])), (a_o_need, .inl (cI, 12, .inl o_need)), (a_o_made, .inl (cI, 12, .inl o_made)), (a_o_skips, .inl (cI, 12, .inl o_skips)), (a_o_tunes, .inl (cI, 3, .inl o_tunes)), (a_o_s, .inl (cI, 105, .inl o_s)), (a_o_spare, .inl (cI, 105, .inl o_spare)), (a_o_makes, .inl (cI, 6, .inl o_makes)), (a_o_works, .inl (cI, 6, .inl o_works))] → va_S A s.heap H locs → lv_has ls 8 [(0, .ref a_o), (1, .int l1), (2, .int l2), (3, .int l3), (4, .int l4), (5, .int l5)] → (∀ (H : Heap) (locs : List Loc) (ls : Array Slot), va_P (dC, dI) vwCl [(a_o, .inr (5, [.int o_thrown, .long o_trace, .ref a_o_text, .int o_typed, .int o_next, .int o_token, .int o_place, .int o_value, .int o_fault, .ref a_o_need, .ref a_o_made, .ref a_o_skillTold, .ref a_o_placeTold, .ref a_o_skips, .ref a_o_wheelTold, .int o_trades, .int o_people, .int o_draftTrades, .int o_draftPeople, .int o_isShut, .ref a_o_tunes, .ref a_o_s, .ref a_o_spare, .ref a_o_kept, .ref a_o_isKept, .ref a_o_makes, .ref a_o_works, .ref a_o_order, .int o_falling'])), (a_o_need, .inl (cI, 12, .inl o_need)), (a_o_made, .inl (cI, 12, .inl o_made)), (a_o_skips, .inl (cI, 12, .inl o_skips)), (a_o_tunes, .inl (cI, 3, .inl o_tunes)), (a_o_s, .inl (cI, 105, .inl o_s')), (a_o_spare, .inl (cI, 105, .inl o_spare')), (a_o_makes, .inl (cI, 6, .inl o_makes')), (a_o_works, .inl (cI, 6, .inl o_works'))] H → va_D A [(a_o, .inr (5, [.int o_thrown, .long o_trace, .ref a_o_text, .int o_typed, .int o_next, .int o_token, .int o_place, .int o_value, .int o_fault, .ref a_o_need, .ref a_o_made, .ref a_o_skillTold, .ref a_o_placeTold, .ref a_o_skips, .ref a_o_wheelTold, .int o_trades, .int o_people, .int o_draftTrades, .int o_draftPeople, .int o_isShut, .ref a_o_tunes, .ref a_o_s, .ref a_o_spare, .ref a_o_kept, .ref a_o_isKept, .ref a_o_makes, .ref a_o_works, .ref a_o_order, .int o_falling'])), (a_o_need, .inl (cI, 12, .inl o_need)), (a_o_made, .inl (cI, 12, .inl o_made)), (a_o_skips, .inl (cI, 12, .inl o_skips)), (a_o_tunes, .inl (cI, 3, .inl o_tunes)), (a_o_s, .inl (cI, 105, .inl o_s')), (a_o_spare, .inl (cI, 105, .inl o_spare')), (a_o_makes, .inl (cI, 6, .inl o_makes')), (a_o_works, .inl (cI, 6, .inl o_works'))] → va_S A s.heap H locs → lv_has ls 8 [(3, .int l3')] → W p l e (headSpec wsX5_standsIn rmX5_standsIn).room s m args below meth c H locs 0 0 Q (F0 m 179 ls [])) → W p l e (headSpec wsX5_standsIn rmX5_standsIn).room s m args below meth c H locs 0 0 Q (F0 m 67 ls []) := by
  obtain ⟨hx, hb, hr, hml, hown, hts, hlocks, hA, hK, hN⟩ := id hg0
  have hF : CallFix p m c cX5_standsIn 8 s args wsX5_standsIn RX5 := ⟨hx, hb, hml, hown, hts⟩
  intro n
  induction n with
  | zero =>
    intro o_falling o_s o_spare o_makes o_works l3 l4 l5 o_falling' o_s' o_spare' o_makes' o_works' l3' l4' l5' hf
    have hf := fX5_standsIn_67_0.symm.trans hf
    cases hf
  | succ n ih =>
    intro o_falling o_s o_spare o_makes o_works l3 l4 l5 o_falling' o_s' o_spare' o_makes' o_works' l3' l4' l5' hf H locs ls hP hD hS hl kx
    have hf := fX5_standsIn_67_s.symm.trans hf
    refine lv_iload hx hb dX5_standsIn_67 (lv_at hl 5 rfl) ?_
    refine lv_aload_n hx hb dX5_standsIn_69 rfl (lv_at hl 0 rfl) ?_
    refine va_get (D := (dC, dI)) (ci := 5) (v := .int o_people) (C := RX5) (T := TX5) (N := 29) hx hb hts uX5_standsIn_X5 hown hK hP 0 rfl rfl 16 (by decide) (hts _ mX5_standsIn_3) (fun _ h9 => h9) rfl dX5_standsIn_70 ?_
    refine lv_icmp_ge (tgt := 179) hx hb dX5_standsIn_73 (by decide) (fun c_1 => ?_) (fun c_1 => ?_)
    · have hf := pit hf c_1
      have q0 := Option.some.inj hf
      obtain ⟨e0, q1⟩ := Prod.mk.inj q0
      obtain ⟨e1, q2⟩ := Prod.mk.inj q1
      obtain ⟨e2, q3⟩ := Prod.mk.inj q2
      obtain ⟨e3, q4⟩ := Prod.mk.inj q3
      obtain ⟨e4, q5⟩ := Prod.mk.inj q4
      obtain ⟨e5, q6⟩ := Prod.mk.inj q5
      obtain ⟨e6, q7⟩ := Prod.mk.inj q6
      subst e0
      subst e1
      subst e2
      subst e3
      subst e4
      subst e5
      subst e6
      subst q7
      exact kx _ _ _ hP hD hS (lv_sub hl [3] rfl)
    · have hf := pif hf c_1
      refine lv_aload_n hx hb dX5_standsIn_76 rfl (lv_at hl 0 rfl) ?_
      refine va_get (D := (dC, dI)) (ci := 5) (v := .ref a_o_s) (C := RX5) (T := TX5) (N := 29) hx hb hts uX5_standsIn_X5 hown hK hP 0 rfl rfl 21 (by decide) (hts _ mX5_standsIn_2) (fun _ h9 => h9) rfl dX5_standsIn_77 ?_
      refine lv_bipush (v := (20 : Int32)) hx hb dX5_standsIn_80 (by decide) ?_
      refine lv_iload_n hx hb dX5_standsIn_82 rfl (lv_at hl 1 rfl) ?_
      refine lv_iadd hx hb dX5_standsIn_83 ?_
      obtain ⟨h_2, hf⟩ := pgd hf
      refine va_iald hx hb hK hP 5 1 rfl rfl h_2 dX5_standsIn_84 ?_
      refine lv_istore (lv' := [(6, .int (o_s ((20 : Int32) + l1).toNatClampNeg)), (0, .ref a_o), (1, .int l1), (2, .int l2), (3, .int l3), (4, .int l4), (5, .int l5)]) hx hb dX5_standsIn_85 hl (by decide) rfl (fun ls hl => ?_)
      refine lv_aload_n hx hb dX5_standsIn_87 rfl (lv_at hl 1 rfl) ?_
      refine va_get (D := (dC, dI)) (ci := 5) (v := .ref a_o_s) (C := RX5) (T := TX5) (N := 29) hx hb hts uX5_standsIn_X5 hown hK hP 0 rfl rfl 21 (by decide) (hts _ mX5_standsIn_2) (fun _ h9 => h9) rfl dX5_standsIn_88 ?_
      refine lv_bipush (v := (20 : Int32)) hx hb dX5_standsIn_91 (by decide) ?_
      refine lv_iload_n hx hb dX5_standsIn_93 rfl (lv_at hl 2 rfl) ?_
      refine lv_iadd hx hb dX5_standsIn_94 ?_
      refine lv_aload_n hx hb dX5_standsIn_95 rfl (lv_at hl 1 rfl) ?_
      refine va_get (D := (dC, dI)) (ci := 5) (v := .ref a_o_s) (C := RX5) (T := TX5) (N := 29) hx hb hts uX5_standsIn_X5 hown hK hP 0 rfl rfl 21 (by decide) (hts _ mX5_standsIn_2) (fun _ h9 => h9) rfl dX5_standsIn_96 ?_
      refine lv_bipush (v := (20 : Int32)) hx hb dX5_standsIn_99 (by decide) ?_
      refine lv_iload hx hb dX5_standsIn_101 (lv_at hl 6 rfl) ?_
      refine lv_iadd hx hb dX5_standsIn_103 ?_
      obtain ⟨h_3, hf⟩ := pgd hf
      refine va_iald hx hb hK hP 5 1 rfl rfl h_3 dX5_standsIn_104 ?_
      obtain ⟨h_4, hf⟩ := pgd hf
      refine va_iast hx hb hK hP hD hS 5 1 rfl rfl h_4 dX5_standsIn_105 (fun H locs hP hD hS => ?_)
      have hP : va_P (dC, dI) vwCl [(a_o, .inr (5, [.int o_thrown, .long o_trace, .ref a_o_text, .int o_typed, .int o_next, .int o_token, .int o_place, .int o_value, .int o_fault, .ref a_o_need, .ref a_o_made, .ref a_o_skillTold, .ref a_o_placeTold, .ref a_o_skips, .ref a_o_wheelTold, .int o_trades, .int o_people, .int o_draftTrades, .int o_draftPeople, .int o_isShut, .ref a_o_tunes, .ref a_o_s, .ref a_o_spare, .ref a_o_kept, .ref a_o_isKept, .ref a_o_makes, .ref a_o_works, .ref a_o_order, .int o_falling])), (a_o_need, .inl (cI, 12, .inl o_need)), (a_o_made, .inl (cI, 12, .inl o_made)), (a_o_skips, .inl (cI, 12, .inl o_skips)), (a_o_tunes, .inl (cI, 3, .inl o_tunes)), (a_o_s, .inl (cI, 105, .inl (upd o_s ((20 : Int32) + l1).toNatClampNeg (o_s ((20 : Int32) + l5).toNatClampNeg)))), (a_o_spare, .inl (cI, 105, .inl o_spare)), (a_o_makes, .inl (cI, 6, .inl o_makes)), (a_o_works, .inl (cI, 6, .inl o_works))] H := hP
      have hD : va_D A [(a_o, .inr (5, [.int o_thrown, .long o_trace, .ref a_o_text, .int o_typed, .int o_next, .int o_token, .int o_place, .int o_value, .int o_fault, .ref a_o_need, .ref a_o_made, .ref a_o_skillTold, .ref a_o_placeTold, .ref a_o_skips, .ref a_o_wheelTold, .int o_trades, .int o_people, .int o_draftTrades, .int o_draftPeople, .int o_isShut, .ref a_o_tunes, .ref a_o_s, .ref a_o_spare, .ref a_o_kept, .ref a_o_isKept, .ref a_o_makes, .ref a_o_works, .ref a_o_order, .int o_falling])), (a_o_need, .inl (cI, 12, .inl o_need)), (a_o_made, .inl (cI, 12, .inl o_made)), (a_o_skips, .inl (cI, 12, .inl o_skips)), (a_o_tunes, .inl (cI, 3, .inl o_tunes)), (a_o_s, .inl (cI, 105, .inl (upd o_s ((20 : Int32) + l1).toNatClampNeg (o_s ((20 : Int32) + l5).toNatClampNeg)))), (a_o_spare, .inl (cI, 105, .inl o_spare)), (a_o_makes, .inl (cI, 6, .inl o_makes)), (a_o_works, .inl (cI, 6, .inl o_works))] := hD
      refine lv_aload_n hx hb dX5_standsIn_106 rfl (lv_at hl 1 rfl) ?_
      refine va_get (D := (dC, dI)) (ci := 5) (v := .ref a_o_s) (C := RX5) (T := TX5) (N := 29) hx hb hts uX5_standsIn_X5 hown hK hP 0 rfl rfl 21 (by decide) (hts _ mX5_standsIn_2) (fun _ h9 => h9) rfl dX5_standsIn_107 ?_
      refine lv_bipush (v := (20 : Int32)) hx hb dX5_standsIn_110 (by decide) ?_
      refine lv_iload hx hb dX5_standsIn_112 (lv_at hl 6 rfl) ?_
      refine lv_iadd hx hb dX5_standsIn_114 ?_
      refine lv_iload hx hb dX5_standsIn_115 (lv_at hl 0 rfl) ?_
      obtain ⟨h_5, hf⟩ := pgd hf
      refine va_iast hx hb hK hP hD hS 5 1 rfl rfl h_5 dX5_standsIn_117 (fun H locs hP hD hS => ?_)
      have hP : va_P (dC, dI) vwCl [(a_o, .inr (5, [.int o_thrown, .long o_trace, .ref a_o_text, .int o_typed, .int o_next, .int o_token, .int o_place, .int o_value, .int o_fault, .ref a_o_need, .ref a_o_made, .ref a_o_skillTold, .ref a_o_placeTold, .ref a_o_skips, .ref a_o_wheelTold, .int o_trades, .int o_people, .int o_draftTrades, .int o_draftPeople, .int o_isShut, .ref a_o_tunes, .ref a_o_s, .ref a_o_spare, .ref a_o_kept, .ref a_o_isKept, .ref a_o_makes, .ref a_o_works, .ref a_o_order, .int o_falling])), (a_o_need, .inl (cI, 12, .inl o_need)), (a_o_made, .inl (cI, 12, .inl o_made)), (a_o_skips, .inl (cI, 12, .inl o_skips)), (a_o_tunes, .inl (cI, 3, .inl o_tunes)), (a_o_s, .inl (cI, 105, .inl (upd (upd o_s ((20 : Int32) + l1).toNatClampNeg (o_s ((20 : Int32) + l5).toNatClampNeg)) ((20 : Int32) + l5).toNatClampNeg (o_s ((20 : Int32) + l1).toNatClampNeg)))), (a_o_spare, .inl (cI, 105, .inl o_spare)), (a_o_makes, .inl (cI, 6, .inl o_makes)), (a_o_works, .inl (cI, 6, .inl o_works))] H := hP
      have hD : va_D A [(a_o, .inr (5, [.int o_thrown, .long o_trace, .ref a_o_text, .int o_typed, .int o_next, .int o_token, .int o_place, .int o_value, .int o_fault, .ref a_o_need, .ref a_o_made, .ref a_o_skillTold, .ref a_o_placeTold, .ref a_o_skips, .ref a_o_wheelTold, .int o_trades, .int o_people, .int o_draftTrades, .int o_draftPeople, .int o_isShut, .ref a_o_tunes, .ref a_o_s, .ref a_o_spare, .ref a_o_kept, .ref a_o_isKept, .ref a_o_makes, .ref a_o_works, .ref a_o_order, .int o_falling])), (a_o_need, .inl (cI, 12, .inl o_need)), (a_o_made, .inl (cI, 12, .inl o_made)), (a_o_skips, .inl (cI, 12, .inl o_skips)), (a_o_tunes, .inl (cI, 3, .inl o_tunes)), (a_o_s, .inl (cI, 105, .inl (upd (upd o_s ((20 : Int32) + l1).toNatClampNeg (o_s ((20 : Int32) + l5).toNatClampNeg)) ((20 : Int32) + l5).toNatClampNeg (o_s ((20 : Int32) + l1).toNatClampNeg)))), (a_o_spare, .inl (cI, 105, .inl o_spare)), (a_o_makes, .inl (cI, 6, .inl o_makes)), (a_o_works, .inl (cI, 6, .inl o_works))] := hD
      refine lv_aload_n hx hb dX5_standsIn_118 rfl (lv_at hl 1 rfl) ?_
      refine va_get (D := (dC, dI)) (ci := 5) (v := .ref a_o_s) (C := RX5) (T := TX5) (N := 29) hx hb hts uX5_standsIn_X5 hown hK hP 0 rfl rfl 21 (by decide) (hts _ mX5_standsIn_2) (fun _ h9 => h9) rfl dX5_standsIn_119 ?_
      refine lv_bipush (v := (32 : Int32)) hx hb dX5_standsIn_122 (by decide) ?_
      refine lv_dup2_11 hx hb dX5_standsIn_124 rfl rfl ?_
      obtain ⟨h_6, hf⟩ := pgd hf
      refine va_iald hx hb hK hP 5 1 rfl rfl h_6 dX5_standsIn_125 ?_
      refine lv_iconst (v := (1 : Int32)) hx hb dX5_standsIn_126 (by decide) ?_
      refine lv_iload_n hx hb dX5_standsIn_127 rfl (lv_at hl 2 rfl) ?_
      refine lv_ishl hx hb dX5_standsIn_128 ?_
      refine lv_ior hx hb dX5_standsIn_129 ?_
      obtain ⟨h_7, hf⟩ := pgd hf
      refine va_iast hx hb hK hP hD hS 5 1 rfl rfl h_7 dX5_standsIn_130 (fun H locs hP hD hS => ?_)
      have hP : va_P (dC, dI) vwCl [(a_o, .inr (5, [.int o_thrown, .long o_trace, .ref a_o_text, .int o_typed, .int o_next, .int o_token, .int o_place, .int o_value, .int o_fault, .ref a_o_need, .ref a_o_made, .ref a_o_skillTold, .ref a_o_placeTold, .ref a_o_skips, .ref a_o_wheelTold, .int o_trades, .int o_people, .int o_draftTrades, .int o_draftPeople, .int o_isShut, .ref a_o_tunes, .ref a_o_s, .ref a_o_spare, .ref a_o_kept, .ref a_o_isKept, .ref a_o_makes, .ref a_o_works, .ref a_o_order, .int o_falling])), (a_o_need, .inl (cI, 12, .inl o_need)), (a_o_made, .inl (cI, 12, .inl o_made)), (a_o_skips, .inl (cI, 12, .inl o_skips)), (a_o_tunes, .inl (cI, 3, .inl o_tunes)), (a_o_s, .inl (cI, 105, .inl (upd (upd (upd o_s ((20 : Int32) + l1).toNatClampNeg (o_s ((20 : Int32) + l5).toNatClampNeg)) ((20 : Int32) + l5).toNatClampNeg (o_s ((20 : Int32) + l1).toNatClampNeg)) (32 : Int32).toNatClampNeg (((upd (upd o_s ((20 : Int32) + l1).toNatClampNeg (o_s ((20 : Int32) + l5).toNatClampNeg)) ((20 : Int32) + l5).toNatClampNeg (o_s ((20 : Int32) + l1).toNatClampNeg)) (32 : Int32).toNatClampNeg) ||| ((1 : Int32) <<< (l1 &&& 31)))))), (a_o_spare, .inl (cI, 105, .inl o_spare)), (a_o_makes, .inl (cI, 6, .inl o_makes)), (a_o_works, .inl (cI, 6, .inl o_works))] H := hP
      have hD : va_D A [(a_o, .inr (5, [.int o_thrown, .long o_trace, .ref a_o_text, .int o_typed, .int o_next, .int o_token, .int o_place, .int o_value, .int o_fault, .ref a_o_need, .ref a_o_made, .ref a_o_skillTold, .ref a_o_placeTold, .ref a_o_skips, .ref a_o_wheelTold, .int o_trades, .int o_people, .int o_draftTrades, .int o_draftPeople, .int o_isShut, .ref a_o_tunes, .ref a_o_s, .ref a_o_spare, .ref a_o_kept, .ref a_o_isKept, .ref a_o_makes, .ref a_o_works, .ref a_o_order, .int o_falling])), (a_o_need, .inl (cI, 12, .inl o_need)), (a_o_made, .inl (cI, 12, .inl o_made)), (a_o_skips, .inl (cI, 12, .inl o_skips)), (a_o_tunes, .inl (cI, 3, .inl o_tunes)), (a_o_s, .inl (cI, 105, .inl (upd (upd (upd o_s ((20 : Int32) + l1).toNatClampNeg (o_s ((20 : Int32) + l5).toNatClampNeg)) ((20 : Int32) + l5).toNatClampNeg (o_s ((20 : Int32) + l1).toNatClampNeg)) (32 : Int32).toNatClampNeg (((upd (upd o_s ((20 : Int32) + l1).toNatClampNeg (o_s ((20 : Int32) + l5).toNatClampNeg)) ((20 : Int32) + l5).toNatClampNeg (o_s ((20 : Int32) + l1).toNatClampNeg)) (32 : Int32).toNatClampNeg) ||| ((1 : Int32) <<< (l1 &&& 31)))))), (a_o_spare, .inl (cI, 105, .inl o_spare)), (a_o_makes, .inl (cI, 6, .inl o_makes)), (a_o_works, .inl (cI, 6, .inl o_works))] := hD
      refine lv_aload_n hx hb dX5_standsIn_131 rfl (lv_at hl 1 rfl) ?_
      refine lv_iload_n hx hb dX5_standsIn_132 rfl (lv_at hl 3 rfl) ?_
      obtain ⟨r_8, o_falling_9, o_s_10, o_makes_11, o_works_12, hc, hf⟩ := pb5 hf
      refine gCi (va_runV (As := [.int l2]) (rest := []) hF (kX5_lacksIn l dC dI Z cC cI cZ cW a_o a_o_text a_o_need a_o_made a_o_skillTold a_o_placeTold a_o_skips a_o_wheelTold a_o_tunes a_o_s a_o_spare a_o_kept a_o_isKept a_o_makes a_o_works a_o_order _ o_thrown o_trace o_typed o_next o_token o_place o_value o_fault o_trades o_people o_draftTrades o_draftPeople o_isShut o_falling o_need o_made o_skips o_tunes (upd (upd (upd o_s ((20 : Int32) + l1).toNatClampNeg (o_s ((20 : Int32) + l5).toNatClampNeg)) ((20 : Int32) + l5).toNatClampNeg (o_s ((20 : Int32) + l1).toNatClampNeg)) (32 : Int32).toNatClampNeg (((upd (upd o_s ((20 : Int32) + l1).toNatClampNeg (o_s ((20 : Int32) + l5).toNatClampNeg)) ((20 : Int32) + l5).toNatClampNeg (o_s ((20 : Int32) + l1).toNatClampNeg)) (32 : Int32).toNatClampNeg) ||| ((1 : Int32) <<< (l1 &&& 31)))) o_makes o_works l2 N r_8 o_falling_9 o_s_10 o_makes_11 o_works_12 hc) (cwV 1 hts gX5_standsIn_X5_lacksIn rfl rfl rfl (by decide +kernel) ⟨Nat.le_of_ble_eq_true rfl, Nat.le_of_ble_eq_true rfl⟩) (gPV (wc := [(a_o, .inr (5, [.int o_thrown, .long o_trace, .ref a_o_text, .int o_typed, .int o_next, .int o_token, .int o_place, .int o_value, .int o_fault, .ref a_o_need, .ref a_o_made, .ref a_o_skillTold, .ref a_o_placeTold, .ref a_o_skips, .ref a_o_wheelTold, .int o_trades, .int o_people, .int o_draftTrades, .int o_draftPeople, .int o_isShut, .ref a_o_tunes, .ref a_o_s, .ref a_o_spare, .ref a_o_kept, .ref a_o_isKept, .ref a_o_makes, .ref a_o_works, .ref a_o_order, .int o_falling])), (a_o_need, .inl (cI, 12, .inl o_need)), (a_o_made, .inl (cI, 12, .inl o_made)), (a_o_skips, .inl (cI, 12, .inl o_skips)), (a_o_tunes, .inl (cI, 3, .inl o_tunes)), (a_o_s, .inl (cI, 105, .inl (upd (upd (upd o_s ((20 : Int32) + l1).toNatClampNeg (o_s ((20 : Int32) + l5).toNatClampNeg)) ((20 : Int32) + l5).toNatClampNeg (o_s ((20 : Int32) + l1).toNatClampNeg)) (32 : Int32).toNatClampNeg (((upd (upd o_s ((20 : Int32) + l1).toNatClampNeg (o_s ((20 : Int32) + l5).toNatClampNeg)) ((20 : Int32) + l5).toNatClampNeg (o_s ((20 : Int32) + l1).toNatClampNeg)) (32 : Int32).toNatClampNeg) ||| ((1 : Int32) <<< (l1 &&& 31)))))), (a_o_makes, .inl (cI, 6, .inl o_makes)), (a_o_works, .inl (cI, 6, .inl o_works))]) hK hN hA hS hP hD [0, 1, 2, 3, 4, 5, 7, 8] rfl rfl (q0 := 0) (ci := 5) rfl rfl rfl) rfl rfl hl.1 rfl (lv_room (Nat.le_of_ble_eq_true rfl)) dX5_standsIn_133 ⟨Nat.zero_le _, Nat.zero_le _⟩) hP hD hS hA [0, 1, 2, 3, 4, 5, 7, 8] rfl rfl rfl (fun H locs hP hD hS => ?_)
      have hP : va_P (dC, dI) vwCl [(a_o, .inr (5, [.int o_thrown, .long o_trace, .ref a_o_text, .int o_typed, .int o_next, .int o_token, .int o_place, .int o_value, .int o_fault, .ref a_o_need, .ref a_o_made, .ref a_o_skillTold, .ref a_o_placeTold, .ref a_o_skips, .ref a_o_wheelTold, .int o_trades, .int o_people, .int o_draftTrades, .int o_draftPeople, .int o_isShut, .ref a_o_tunes, .ref a_o_s, .ref a_o_spare, .ref a_o_kept, .ref a_o_isKept, .ref a_o_makes, .ref a_o_works, .ref a_o_order, .int o_falling_9])), (a_o_need, .inl (cI, 12, .inl o_need)), (a_o_made, .inl (cI, 12, .inl o_made)), (a_o_skips, .inl (cI, 12, .inl o_skips)), (a_o_tunes, .inl (cI, 3, .inl o_tunes)), (a_o_s, .inl (cI, 105, .inl o_s_10)), (a_o_spare, .inl (cI, 105, .inl o_spare)), (a_o_makes, .inl (cI, 6, .inl o_makes_11)), (a_o_works, .inl (cI, 6, .inl o_works_12))] H := hP
      have hD : va_D A [(a_o, .inr (5, [.int o_thrown, .long o_trace, .ref a_o_text, .int o_typed, .int o_next, .int o_token, .int o_place, .int o_value, .int o_fault, .ref a_o_need, .ref a_o_made, .ref a_o_skillTold, .ref a_o_placeTold, .ref a_o_skips, .ref a_o_wheelTold, .int o_trades, .int o_people, .int o_draftTrades, .int o_draftPeople, .int o_isShut, .ref a_o_tunes, .ref a_o_s, .ref a_o_spare, .ref a_o_kept, .ref a_o_isKept, .ref a_o_makes, .ref a_o_works, .ref a_o_order, .int o_falling_9])), (a_o_need, .inl (cI, 12, .inl o_need)), (a_o_made, .inl (cI, 12, .inl o_made)), (a_o_skips, .inl (cI, 12, .inl o_skips)), (a_o_tunes, .inl (cI, 3, .inl o_tunes)), (a_o_s, .inl (cI, 105, .inl o_s_10)), (a_o_spare, .inl (cI, 105, .inl o_spare)), (a_o_makes, .inl (cI, 6, .inl o_makes_11)), (a_o_works, .inl (cI, 6, .inl o_works_12))] := hD
      refine lv_istore (lv' := [(7, .int r_8), (6, .int (o_s ((20 : Int32) + l1).toNatClampNeg)), (0, .ref a_o), (1, .int l1), (2, .int l2), (3, .int l3), (4, .int l4), (5, .int l5)]) hx hb dX5_standsIn_136 hl (by decide) rfl (fun ls hl => ?_)
      refine lv_aload_n hx hb dX5_standsIn_138 rfl (lv_at hl 2 rfl) ?_
      refine lv_iconst (v := (0 : Int32)) hx hb dX5_standsIn_139 (by decide) ?_
      obtain ⟨o_s_13, o_spare_14, hc, hf⟩ := pb2 hf
      refine gCv (va_runV (As := [.int (0 : Int32)]) (rest := []) hF (kX5_aside l dC dI Z cC cI cZ cW a_o a_o_text a_o_need a_o_made a_o_skillTold a_o_placeTold a_o_skips a_o_wheelTold a_o_tunes a_o_s a_o_spare a_o_kept a_o_isKept a_o_makes a_o_works a_o_order _ o_thrown o_trace o_typed o_next o_token o_place o_value o_fault o_trades o_people o_draftTrades o_draftPeople o_isShut o_falling_9 o_s_10 o_spare (0 : Int32) N o_s_13 o_spare_14 hc) (cwV 1 hts gX5_standsIn_X5_aside rfl rfl rfl (by decide +kernel) ⟨Nat.le_of_ble_eq_true rfl, Nat.le_of_ble_eq_true rfl⟩) (gPV (wc := [(a_o, .inr (5, [.int o_thrown, .long o_trace, .ref a_o_text, .int o_typed, .int o_next, .int o_token, .int o_place, .int o_value, .int o_fault, .ref a_o_need, .ref a_o_made, .ref a_o_skillTold, .ref a_o_placeTold, .ref a_o_skips, .ref a_o_wheelTold, .int o_trades, .int o_people, .int o_draftTrades, .int o_draftPeople, .int o_isShut, .ref a_o_tunes, .ref a_o_s, .ref a_o_spare, .ref a_o_kept, .ref a_o_isKept, .ref a_o_makes, .ref a_o_works, .ref a_o_order, .int o_falling_9])), (a_o_s, .inl (cI, 105, .inl o_s_10)), (a_o_spare, .inl (cI, 105, .inl o_spare))]) hK hN hA hS hP hD [0, 5, 6] rfl rfl (q0 := 0) (ci := 5) rfl rfl rfl) rfl rfl hl.1 rfl (lv_room (Nat.le_of_ble_eq_true rfl)) dX5_standsIn_140 ⟨Nat.zero_le _, Nat.zero_le _⟩) hP hD hS hA [0, 5, 6] rfl rfl rfl (fun H locs hP hD hS => ?_)
      have hP : va_P (dC, dI) vwCl [(a_o, .inr (5, [.int o_thrown, .long o_trace, .ref a_o_text, .int o_typed, .int o_next, .int o_token, .int o_place, .int o_value, .int o_fault, .ref a_o_need, .ref a_o_made, .ref a_o_skillTold, .ref a_o_placeTold, .ref a_o_skips, .ref a_o_wheelTold, .int o_trades, .int o_people, .int o_draftTrades, .int o_draftPeople, .int o_isShut, .ref a_o_tunes, .ref a_o_s, .ref a_o_spare, .ref a_o_kept, .ref a_o_isKept, .ref a_o_makes, .ref a_o_works, .ref a_o_order, .int o_falling_9])), (a_o_need, .inl (cI, 12, .inl o_need)), (a_o_made, .inl (cI, 12, .inl o_made)), (a_o_skips, .inl (cI, 12, .inl o_skips)), (a_o_tunes, .inl (cI, 3, .inl o_tunes)), (a_o_s, .inl (cI, 105, .inl o_s_13)), (a_o_spare, .inl (cI, 105, .inl o_spare_14)), (a_o_makes, .inl (cI, 6, .inl o_makes_11)), (a_o_works, .inl (cI, 6, .inl o_works_12))] H := hP
      have hD : va_D A [(a_o, .inr (5, [.int o_thrown, .long o_trace, .ref a_o_text, .int o_typed, .int o_next, .int o_token, .int o_place, .int o_value, .int o_fault, .ref a_o_need, .ref a_o_made, .ref a_o_skillTold, .ref a_o_placeTold, .ref a_o_skips, .ref a_o_wheelTold, .int o_trades, .int o_people, .int o_draftTrades, .int o_draftPeople, .int o_isShut, .ref a_o_tunes, .ref a_o_s, .ref a_o_spare, .ref a_o_kept, .ref a_o_isKept, .ref a_o_makes, .ref a_o_works, .ref a_o_order, .int o_falling_9])), (a_o_need, .inl (cI, 12, .inl o_need)), (a_o_made, .inl (cI, 12, .inl o_made)), (a_o_skips, .inl (cI, 12, .inl o_skips)), (a_o_tunes, .inl (cI, 3, .inl o_tunes)), (a_o_s, .inl (cI, 105, .inl o_s_13)), (a_o_spare, .inl (cI, 105, .inl o_spare_14)), (a_o_makes, .inl (cI, 6, .inl o_makes_11)), (a_o_works, .inl (cI, 6, .inl o_works_12))] := hD
      refine lv_iload hx hb dX5_standsIn_143 (lv_at hl 0 rfl) ?_
      refine lv_iload hx hb dX5_standsIn_145 (lv_at hl 6 rfl) ?_
      refine lv_icmp_ge (tgt := 155) hx hb dX5_standsIn_147 (by decide) (fun c_15 => ?_) (fun c_15 => ?_)
      · have hf := pit hf c_15
        refine lv_iload_n hx hb dX5_standsIn_155 rfl (lv_at hl 5 rfl) ?_
        refine lv_istore_n (lv' := [(3, .int l3), (7, .int r_8), (6, .int (o_s ((20 : Int32) + l1).toNatClampNeg)), (0, .ref a_o), (1, .int l1), (2, .int l2), (4, .int l4), (5, .int l5)]) hx hb dX5_standsIn_156 rfl hl (by decide) rfl (fun ls hl => ?_)
        refine lv_iload hx hb dX5_standsIn_157 (lv_at hl 1 rfl) ?_
        refine lv_iload hx hb dX5_standsIn_159 (lv_at hl 6 rfl) ?_
        refine lv_icmp_ge (tgt := 169) hx hb dX5_standsIn_161 (by decide) (fun c_16 => ?_) (fun c_16 => ?_)
        · have hf := pit hf c_16
          refine lv_iload hx hb dX5_standsIn_169 (lv_at hl 6 rfl) ?_
          refine lv_istore (lv' := [(4, .int l4), (3, .int l3), (7, .int r_8), (6, .int (o_s ((20 : Int32) + l1).toNatClampNeg)), (0, .ref a_o), (1, .int l1), (2, .int l2), (5, .int l5)]) hx hb dX5_standsIn_171 hl (by decide) rfl (fun ls hl => ?_)
          refine lv_iinc (v := (l5 + 1)) (lv' := [(5, .int (l5 + 1)), (4, .int l4), (3, .int l3), (7, .int r_8), (6, .int (o_s ((20 : Int32) + l1).toNatClampNeg)), (0, .ref a_o), (1, .int l1), (2, .int l2)]) hx hb dX5_standsIn_173 hl (k := 7) rfl rfl (by decide) rfl (fun ls hl => ?_)
          refine lv_goto (tgt := 67) hx hb dX5_standsIn_176 (by decide) ?_
          exact ih _ _ _ _ _ _ _ _ _ _ _ _ _ _ _ _ hf _ _ _ hP hD hS (lv_sub hl [5, 6, 7, 2, 1, 0] rfl) kx
        · have hf := pif hf c_16
          refine lv_iload hx hb dX5_standsIn_164 (lv_at hl 1 rfl) ?_
          refine lv_goto (tgt := 171) hx hb dX5_standsIn_166 (by decide) ?_
          refine lv_istore (lv' := [(4, .int r_8), (3, .int l3), (7, .int r_8), (6, .int (o_s ((20 : Int32) + l1).toNatClampNeg)), (0, .ref a_o), (1, .int l1), (2, .int l2), (5, .int l5)]) hx hb dX5_standsIn_171 hl (by decide) rfl (fun ls hl => ?_)
          refine lv_iinc (v := (l5 + 1)) (lv' := [(5, .int (l5 + 1)), (4, .int r_8), (3, .int l3), (7, .int r_8), (6, .int (o_s ((20 : Int32) + l1).toNatClampNeg)), (0, .ref a_o), (1, .int l1), (2, .int l2)]) hx hb dX5_standsIn_173 hl (k := 7) rfl rfl (by decide) rfl (fun ls hl => ?_)
          refine lv_goto (tgt := 67) hx hb dX5_standsIn_176 (by decide) ?_
          exact ih _ _ _ _ _ _ _ _ _ _ _ _ _ _ _ _ hf _ _ _ hP hD hS (lv_sub hl [5, 6, 7, 2, 1, 0] rfl) kx
      · have hf := pif hf c_15
        refine lv_iload hx hb dX5_standsIn_150 (lv_at hl 7 rfl) ?_
        refine lv_goto (tgt := 156) hx hb dX5_standsIn_152 (by decide) ?_
        refine lv_istore_n (lv' := [(3, .int l5), (7, .int r_8), (6, .int (o_s ((20 : Int32) + l1).toNatClampNeg)), (0, .ref a_o), (1, .int l1), (2, .int l2), (4, .int l4), (5, .int l5)]) hx hb dX5_standsIn_156 rfl hl (by decide) rfl (fun ls hl => ?_)
        refine lv_iload hx hb dX5_standsIn_157 (lv_at hl 1 rfl) ?_
        refine lv_iload hx hb dX5_standsIn_159 (lv_at hl 6 rfl) ?_
        refine lv_icmp_ge (tgt := 169) hx hb dX5_standsIn_161 (by decide) (fun c_17 => ?_) (fun c_17 => ?_)
        · have hf := pit hf c_17
          refine lv_iload hx hb dX5_standsIn_169 (lv_at hl 6 rfl) ?_
          refine lv_istore (lv' := [(4, .int l4), (3, .int l5), (7, .int r_8), (6, .int (o_s ((20 : Int32) + l1).toNatClampNeg)), (0, .ref a_o), (1, .int l1), (2, .int l2), (5, .int l5)]) hx hb dX5_standsIn_171 hl (by decide) rfl (fun ls hl => ?_)
          refine lv_iinc (v := (l5 + 1)) (lv' := [(5, .int (l5 + 1)), (4, .int l4), (3, .int l5), (7, .int r_8), (6, .int (o_s ((20 : Int32) + l1).toNatClampNeg)), (0, .ref a_o), (1, .int l1), (2, .int l2)]) hx hb dX5_standsIn_173 hl (k := 7) rfl rfl (by decide) rfl (fun ls hl => ?_)
          refine lv_goto (tgt := 67) hx hb dX5_standsIn_176 (by decide) ?_
          exact ih _ _ _ _ _ _ _ _ _ _ _ _ _ _ _ _ hf _ _ _ hP hD hS (lv_sub hl [5, 6, 7, 2, 1, 0] rfl) kx
        · have hf := pif hf c_17
          refine lv_iload hx hb dX5_standsIn_164 (lv_at hl 1 rfl) ?_
          refine lv_goto (tgt := 171) hx hb dX5_standsIn_166 (by decide) ?_
          refine lv_istore (lv' := [(4, .int r_8), (3, .int l5), (7, .int r_8), (6, .int (o_s ((20 : Int32) + l1).toNatClampNeg)), (0, .ref a_o), (1, .int l1), (2, .int l2), (5, .int l5)]) hx hb dX5_standsIn_171 hl (by decide) rfl (fun ls hl => ?_)
          refine lv_iinc (v := (l5 + 1)) (lv' := [(5, .int (l5 + 1)), (4, .int r_8), (3, .int l5), (7, .int r_8), (6, .int (o_s ((20 : Int32) + l1).toNatClampNeg)), (0, .ref a_o), (1, .int l1), (2, .int l2)]) hx hb dX5_standsIn_173 hl (k := 7) rfl rfl (by decide) rfl (fun ls hl => ?_)
          refine lv_goto (tgt := 67) hx hb dX5_standsIn_176 (by decide) ?_
          exact ih _ _ _ _ _ _ _ _ _ _ _ _ _ _ _ _ hf _ _ _ hP hD hS (lv_sub hl [5, 6, 7, 2, 1, 0] rfl) kx
set_option maxHeartbeats 4000000 in
set_option maxRecDepth 100000 in
theorem kX5_standsIn (l : Launch) (dC : Nat → ClassId) (dI : Nat → Nat → Nat) (Z : gZ) (cC cI cZ cW : ClassId) (a_o a_o_text a_o_need a_o_made a_o_skillTold a_o_placeTold a_o_skips a_o_wheelTold a_o_tunes a_o_s a_o_spare a_o_kept a_o_isKept a_o_makes a_o_works a_o_order : Nat) (sz : Nat) (o_thrown : Int32) (o_trace : Int64) (o_typed : Int32) (o_next : Int32) (o_token : Int32) (o_place : Int32) (o_value : Int32) (o_fault : Int32) (o_trades : Int32) (o_people : Int32) (o_draftTrades : Int32) (o_draftPeople : Int32) (o_isShut : Int32) (o_falling : Int32) (o_need : Nat → Int32) (o_made : Nat → Int32) (o_skips : Nat → Int32) (o_tunes : Nat → Int32) (o_s : Nat → Int32) (o_spare : Nat → Int32) (o_makes : Nat → Int32) (o_works : Nat → Int32) (i1 : Int32) (i2 : Int32) (N : Nat) (r' : Int32) (o_thrown' : Int32) (o_falling' : Int32) (o_s' : Nat → Int32) (o_spare' : Nat → Int32) (o_makes' : Nat → Int32) (o_works' : Nat → Int32) (hf : fX5_standsIn N o_thrown o_trades o_people o_falling o_need o_made o_skips o_tunes o_s o_spare o_makes o_works  i1 i2 = some (r', o_thrown', o_falling', o_s', o_spare', o_makes', o_works')) : Met l yX5_standsIn wsX5_standsIn rmX5_standsIn (va_Pc [.ref a_o, .int i1, .int i2] (gB (dC, dI) Z [(cC, .char), (cI, .int), (cZ, .boolean), (cW, .object RX3)] [(a_o, .inr (5, [.int o_thrown, .long o_trace, .ref a_o_text, .int o_typed, .int o_next, .int o_token, .int o_place, .int o_value, .int o_fault, .ref a_o_need, .ref a_o_made, .ref a_o_skillTold, .ref a_o_placeTold, .ref a_o_skips, .ref a_o_wheelTold, .int o_trades, .int o_people, .int o_draftTrades, .int o_draftPeople, .int o_isShut, .ref a_o_tunes, .ref a_o_s, .ref a_o_spare, .ref a_o_kept, .ref a_o_isKept, .ref a_o_makes, .ref a_o_works, .ref a_o_order, .int o_falling])), (a_o_need, .inl (cI, 12, .inl o_need)), (a_o_made, .inl (cI, 12, .inl o_made)), (a_o_skips, .inl (cI, 12, .inl o_skips)), (a_o_tunes, .inl (cI, 3, .inl o_tunes)), (a_o_s, .inl (cI, 105, .inl o_s)), (a_o_spare, .inl (cI, 105, .inl o_spare)), (a_o_makes, .inl (cI, 6, .inl o_makes)), (a_o_works, .inl (cI, 6, .inl o_works))] sz)) (va_Qi (fun (r : Int32) (_ : Unit) => r = r') (gE (dC, dI) [(a_o, .inr (5, [.int o_thrown', .long o_trace, .ref a_o_text, .int o_typed, .int o_next, .int o_token, .int o_place, .int o_value, .int o_fault, .ref a_o_need, .ref a_o_made, .ref a_o_skillTold, .ref a_o_placeTold, .ref a_o_skips, .ref a_o_wheelTold, .int o_trades, .int o_people, .int o_draftTrades, .int o_draftPeople, .int o_isShut, .ref a_o_tunes, .ref a_o_s, .ref a_o_spare, .ref a_o_kept, .ref a_o_isKept, .ref a_o_makes, .ref a_o_works, .ref a_o_order, .int o_falling'])), (a_o_need, .inl (cI, 12, .inl o_need)), (a_o_made, .inl (cI, 12, .inl o_made)), (a_o_skips, .inl (cI, 12, .inl o_skips)), (a_o_tunes, .inl (cI, 3, .inl o_tunes)), (a_o_s, .inl (cI, 105, .inl o_s')), (a_o_spare, .inl (cI, 105, .inl o_spare')), (a_o_makes, .inl (cI, 6, .inl o_makes')), (a_o_works, .inl (cI, 6, .inl o_works'))]) (va_A [(a_o, .inr (5, [.int o_thrown, .long o_trace, .ref a_o_text, .int o_typed, .int o_next, .int o_token, .int o_place, .int o_value, .int o_fault, .ref a_o_need, .ref a_o_made, .ref a_o_skillTold, .ref a_o_placeTold, .ref a_o_skips, .ref a_o_wheelTold, .int o_trades, .int o_people, .int o_draftTrades, .int o_draftPeople, .int o_isShut, .ref a_o_tunes, .ref a_o_s, .ref a_o_spare, .ref a_o_kept, .ref a_o_isKept, .ref a_o_makes, .ref a_o_works, .ref a_o_order, .int o_falling])), (a_o_need, .inl (cI, 12, .inl o_need)), (a_o_made, .inl (cI, 12, .inl o_made)), (a_o_skips, .inl (cI, 12, .inl o_skips)), (a_o_tunes, .inl (cI, 3, .inl o_tunes)), (a_o_s, .inl (cI, 105, .inl o_s)), (a_o_spare, .inl (cI, 105, .inl o_spare)), (a_o_makes, .inl (cI, 6, .inl o_makes)), (a_o_works, .inl (cI, 6, .inl o_works))] sz)) 0 0 (va_A [(a_o, .inr (5, [.int o_thrown, .long o_trace, .ref a_o_text, .int o_typed, .int o_next, .int o_token, .int o_place, .int o_value, .int o_fault, .ref a_o_need, .ref a_o_made, .ref a_o_skillTold, .ref a_o_placeTold, .ref a_o_skips, .ref a_o_wheelTold, .int o_trades, .int o_people, .int o_draftTrades, .int o_draftPeople, .int o_isShut, .ref a_o_tunes, .ref a_o_s, .ref a_o_spare, .ref a_o_kept, .ref a_o_isKept, .ref a_o_makes, .ref a_o_works, .ref a_o_order, .int o_falling])), (a_o_need, .inl (cI, 12, .inl o_need)), (a_o_made, .inl (cI, 12, .inl o_made)), (a_o_skips, .inl (cI, 12, .inl o_skips)), (a_o_tunes, .inl (cI, 3, .inl o_tunes)), (a_o_s, .inl (cI, 105, .inl o_s)), (a_o_spare, .inl (cI, 105, .inl o_spare)), (a_o_makes, .inl (cI, 6, .inl o_makes)), (a_o_works, .inl (cI, 6, .inl o_works))] sz) := by
  refine gMet (cc := cX5_standsIn) (maxL := 8) (ret := (some .int)) (Qc := fun A => va_Qi (fun (r : Int32) (_ : Unit) => r = r') (gE (dC, dI) [(a_o, .inr (5, [.int o_thrown', .long o_trace, .ref a_o_text, .int o_typed, .int o_next, .int o_token, .int o_place, .int o_value, .int o_fault, .ref a_o_need, .ref a_o_made, .ref a_o_skillTold, .ref a_o_placeTold, .ref a_o_skips, .ref a_o_wheelTold, .int o_trades, .int o_people, .int o_draftTrades, .int o_draftPeople, .int o_isShut, .ref a_o_tunes, .ref a_o_s, .ref a_o_spare, .ref a_o_kept, .ref a_o_isKept, .ref a_o_makes, .ref a_o_works, .ref a_o_order, .int o_falling'])), (a_o_need, .inl (cI, 12, .inl o_need)), (a_o_made, .inl (cI, 12, .inl o_made)), (a_o_skips, .inl (cI, 12, .inl o_skips)), (a_o_tunes, .inl (cI, 3, .inl o_tunes)), (a_o_s, .inl (cI, 105, .inl o_s')), (a_o_spare, .inl (cI, 105, .inl o_spare')), (a_o_makes, .inl (cI, 6, .inl o_makes')), (a_o_works, .inl (cI, 6, .inl o_works'))]) A) (by decide) rfl (Nat.le_of_ble_eq_true rfl) ?_
  intro p e s m below meth c A ls hg0 _ hsz hP hD hS hl
  have hg0 : gX p s m _ meth c cX5_standsIn 8 (some .int) wsX5_standsIn RX5 (dC, dI) Z [(cC, .char), (cI, .int), (cZ, .boolean), (cW, .object RX3)] A := hg0
  obtain ⟨hx, hb, hr, hml, hown, hts, hlocks, hA, hK, hN⟩ := id hg0
  subst hsz
  have hF : CallFix p m c cX5_standsIn 8 s _ wsX5_standsIn RX5 := ⟨hx, hb, hml, hown, hts⟩
  have hl : lv_has ls 8 [(0, .ref a_o), (1, .int i1), (2, .int i2)] := hl
  unfold fX5_standsIn at hf
  refine lv_aload_n hx hb dX5_standsIn_0 rfl (lv_at hl 0 rfl) ?_
  refine lv_iconst (v := (0 : Int32)) hx hb dX5_standsIn_1 (by decide) ?_
  refine va_put (D := (dC, dI)) (ci := 5) (v := .int (0 : Int32)) (ty := .int) (C := RX5) (T := TX5) (N := 29) hx hb hts uX5_standsIn_X5 tyX5 tyX5_ok nmX5 hown hK hP hD hS 0 rfl rfl 0 (by decide) (hts _ mX5_standsIn_0) (fun _ h9 => h9) rfl (by decide +kernel) rfl rfl (Nat.le_of_ble_eq_true rfl) dX5_standsIn_2 (fun H locs hP hD hS => ?_)
  have hP : va_P (dC, dI) vwCl [(a_o, .inr (5, [.int (0 : Int32), .long o_trace, .ref a_o_text, .int o_typed, .int o_next, .int o_token, .int o_place, .int o_value, .int o_fault, .ref a_o_need, .ref a_o_made, .ref a_o_skillTold, .ref a_o_placeTold, .ref a_o_skips, .ref a_o_wheelTold, .int o_trades, .int o_people, .int o_draftTrades, .int o_draftPeople, .int o_isShut, .ref a_o_tunes, .ref a_o_s, .ref a_o_spare, .ref a_o_kept, .ref a_o_isKept, .ref a_o_makes, .ref a_o_works, .ref a_o_order, .int o_falling])), (a_o_need, .inl (cI, 12, .inl o_need)), (a_o_made, .inl (cI, 12, .inl o_made)), (a_o_skips, .inl (cI, 12, .inl o_skips)), (a_o_tunes, .inl (cI, 3, .inl o_tunes)), (a_o_s, .inl (cI, 105, .inl o_s)), (a_o_spare, .inl (cI, 105, .inl o_spare)), (a_o_makes, .inl (cI, 6, .inl o_makes)), (a_o_works, .inl (cI, 6, .inl o_works))] H := hP
  have hD : va_D A [(a_o, .inr (5, [.int (0 : Int32), .long o_trace, .ref a_o_text, .int o_typed, .int o_next, .int o_token, .int o_place, .int o_value, .int o_fault, .ref a_o_need, .ref a_o_made, .ref a_o_skillTold, .ref a_o_placeTold, .ref a_o_skips, .ref a_o_wheelTold, .int o_trades, .int o_people, .int o_draftTrades, .int o_draftPeople, .int o_isShut, .ref a_o_tunes, .ref a_o_s, .ref a_o_spare, .ref a_o_kept, .ref a_o_isKept, .ref a_o_makes, .ref a_o_works, .ref a_o_order, .int o_falling])), (a_o_need, .inl (cI, 12, .inl o_need)), (a_o_made, .inl (cI, 12, .inl o_made)), (a_o_skips, .inl (cI, 12, .inl o_skips)), (a_o_tunes, .inl (cI, 3, .inl o_tunes)), (a_o_s, .inl (cI, 105, .inl o_s)), (a_o_spare, .inl (cI, 105, .inl o_spare)), (a_o_makes, .inl (cI, 6, .inl o_makes)), (a_o_works, .inl (cI, 6, .inl o_works))] := hD
  refine lv_aload_n hx hb dX5_standsIn_5 rfl (lv_at hl 0 rfl) ?_
  refine lv_iload_n hx hb dX5_standsIn_6 rfl (lv_at hl 1 rfl) ?_
  obtain ⟨r_1, hc, hf⟩ := pb1 hf
  refine gCi (va_runV (As := [.int i1]) (rest := []) hF (kX5_isPerson l dC dI Z cC cI cZ cW a_o a_o_text a_o_need a_o_made a_o_skillTold a_o_placeTold a_o_skips a_o_wheelTold a_o_tunes a_o_s a_o_spare a_o_kept a_o_isKept a_o_makes a_o_works a_o_order _ (0 : Int32) o_trace o_typed o_next o_token o_place o_value o_fault o_trades o_people o_draftTrades o_draftPeople o_isShut o_falling i1 N r_1 hc) (cwV 1 hts gX5_standsIn_X5_isPerson rfl rfl rfl (by decide +kernel) ⟨Nat.le_of_ble_eq_true rfl, Nat.le_of_ble_eq_true rfl⟩) (gPV (wc := [(a_o, .inr (5, [.int (0 : Int32), .long o_trace, .ref a_o_text, .int o_typed, .int o_next, .int o_token, .int o_place, .int o_value, .int o_fault, .ref a_o_need, .ref a_o_made, .ref a_o_skillTold, .ref a_o_placeTold, .ref a_o_skips, .ref a_o_wheelTold, .int o_trades, .int o_people, .int o_draftTrades, .int o_draftPeople, .int o_isShut, .ref a_o_tunes, .ref a_o_s, .ref a_o_spare, .ref a_o_kept, .ref a_o_isKept, .ref a_o_makes, .ref a_o_works, .ref a_o_order, .int o_falling]))]) hK hN hA hS hP hD [0] rfl rfl (q0 := 0) (ci := 5) rfl rfl rfl) rfl rfl hl.1 rfl (lv_room (Nat.le_of_ble_eq_true rfl)) dX5_standsIn_7 ⟨Nat.zero_le _, Nat.zero_le _⟩) hP hD hS hA [0] rfl rfl rfl (fun H locs hP hD hS => ?_)
  have hP : va_P (dC, dI) vwCl [(a_o, .inr (5, [.int (0 : Int32), .long o_trace, .ref a_o_text, .int o_typed, .int o_next, .int o_token, .int o_place, .int o_value, .int o_fault, .ref a_o_need, .ref a_o_made, .ref a_o_skillTold, .ref a_o_placeTold, .ref a_o_skips, .ref a_o_wheelTold, .int o_trades, .int o_people, .int o_draftTrades, .int o_draftPeople, .int o_isShut, .ref a_o_tunes, .ref a_o_s, .ref a_o_spare, .ref a_o_kept, .ref a_o_isKept, .ref a_o_makes, .ref a_o_works, .ref a_o_order, .int o_falling])), (a_o_need, .inl (cI, 12, .inl o_need)), (a_o_made, .inl (cI, 12, .inl o_made)), (a_o_skips, .inl (cI, 12, .inl o_skips)), (a_o_tunes, .inl (cI, 3, .inl o_tunes)), (a_o_s, .inl (cI, 105, .inl o_s)), (a_o_spare, .inl (cI, 105, .inl o_spare)), (a_o_makes, .inl (cI, 6, .inl o_makes)), (a_o_works, .inl (cI, 6, .inl o_works))] H := hP
  have hD : va_D A [(a_o, .inr (5, [.int (0 : Int32), .long o_trace, .ref a_o_text, .int o_typed, .int o_next, .int o_token, .int o_place, .int o_value, .int o_fault, .ref a_o_need, .ref a_o_made, .ref a_o_skillTold, .ref a_o_placeTold, .ref a_o_skips, .ref a_o_wheelTold, .int o_trades, .int o_people, .int o_draftTrades, .int o_draftPeople, .int o_isShut, .ref a_o_tunes, .ref a_o_s, .ref a_o_spare, .ref a_o_kept, .ref a_o_isKept, .ref a_o_makes, .ref a_o_works, .ref a_o_order, .int o_falling])), (a_o_need, .inl (cI, 12, .inl o_need)), (a_o_made, .inl (cI, 12, .inl o_made)), (a_o_skips, .inl (cI, 12, .inl o_skips)), (a_o_tunes, .inl (cI, 3, .inl o_tunes)), (a_o_s, .inl (cI, 105, .inl o_s)), (a_o_spare, .inl (cI, 105, .inl o_spare)), (a_o_makes, .inl (cI, 6, .inl o_makes)), (a_o_works, .inl (cI, 6, .inl o_works))] := hD
  refine lv_if_eq (tgt := 20) hx hb dX5_standsIn_10 (by decide) (fun c_2 => ?_) (fun c_2 => ?_)
  · have hf := pit hf c_2
    refine lv_iconst (v := (-1 : Int32)) hx hb dX5_standsIn_20 (by decide) ?_
    have q0 := Option.some.inj hf
    obtain ⟨e0, q1⟩ := Prod.mk.inj q0
    obtain ⟨e1, q2⟩ := Prod.mk.inj q1
    obtain ⟨e2, q3⟩ := Prod.mk.inj q2
    obtain ⟨e3, q4⟩ := Prod.mk.inj q3
    obtain ⟨e4, q5⟩ := Prod.mk.inj q4
    obtain ⟨e5, q6⟩ := Prod.mk.inj q5
    subst e0
    subst e1
    subst e2
    subst e3
    subst e4
    subst e5
    subst q6
    exact gRi hx hb hr hlocks hP hS dX5_standsIn_21
  · have hf := pif hf c_2
    refine lv_iload_n hx hb dX5_standsIn_13 rfl (lv_at hl 2 rfl) ?_
    obtain ⟨r_3, hc, hf⟩ := pb1 hf
    refine gCi (va_runS (As := [.int i2]) (rest := []) hF (kX5_areRounds l dC dI Z cC cI cZ cW  _  i2 N r_3 hc) (cwS 1 hts gX5_standsIn_X5_areRounds rfl rfl rfl (by decide +kernel) ⟨Nat.le_of_ble_eq_true rfl, Nat.le_of_ble_eq_true rfl⟩) (gPS (wc := []) hK hN hA hS hP hD [] rfl rfl) rfl rfl hl.1 rfl (lv_room (Nat.le_of_ble_eq_true rfl)) dX5_standsIn_14 ⟨Nat.zero_le _, Nat.zero_le _⟩) hP hD hS hA [] rfl rfl rfl (fun H locs hP hD hS => ?_)
    have hP : va_P (dC, dI) vwCl [(a_o, .inr (5, [.int (0 : Int32), .long o_trace, .ref a_o_text, .int o_typed, .int o_next, .int o_token, .int o_place, .int o_value, .int o_fault, .ref a_o_need, .ref a_o_made, .ref a_o_skillTold, .ref a_o_placeTold, .ref a_o_skips, .ref a_o_wheelTold, .int o_trades, .int o_people, .int o_draftTrades, .int o_draftPeople, .int o_isShut, .ref a_o_tunes, .ref a_o_s, .ref a_o_spare, .ref a_o_kept, .ref a_o_isKept, .ref a_o_makes, .ref a_o_works, .ref a_o_order, .int o_falling])), (a_o_need, .inl (cI, 12, .inl o_need)), (a_o_made, .inl (cI, 12, .inl o_made)), (a_o_skips, .inl (cI, 12, .inl o_skips)), (a_o_tunes, .inl (cI, 3, .inl o_tunes)), (a_o_s, .inl (cI, 105, .inl o_s)), (a_o_spare, .inl (cI, 105, .inl o_spare)), (a_o_makes, .inl (cI, 6, .inl o_makes)), (a_o_works, .inl (cI, 6, .inl o_works))] H := hP
    have hD : va_D A [(a_o, .inr (5, [.int (0 : Int32), .long o_trace, .ref a_o_text, .int o_typed, .int o_next, .int o_token, .int o_place, .int o_value, .int o_fault, .ref a_o_need, .ref a_o_made, .ref a_o_skillTold, .ref a_o_placeTold, .ref a_o_skips, .ref a_o_wheelTold, .int o_trades, .int o_people, .int o_draftTrades, .int o_draftPeople, .int o_isShut, .ref a_o_tunes, .ref a_o_s, .ref a_o_spare, .ref a_o_kept, .ref a_o_isKept, .ref a_o_makes, .ref a_o_works, .ref a_o_order, .int o_falling])), (a_o_need, .inl (cI, 12, .inl o_need)), (a_o_made, .inl (cI, 12, .inl o_made)), (a_o_skips, .inl (cI, 12, .inl o_skips)), (a_o_tunes, .inl (cI, 3, .inl o_tunes)), (a_o_s, .inl (cI, 105, .inl o_s)), (a_o_spare, .inl (cI, 105, .inl o_spare)), (a_o_makes, .inl (cI, 6, .inl o_makes)), (a_o_works, .inl (cI, 6, .inl o_works))] := hD
    refine lv_if_ne (tgt := 22) hx hb dX5_standsIn_17 (by decide) (fun c_4 => ?_) (fun c_4 => ?_)
    · have hf := pif hf c_4
      refine lv_aload_n hx hb dX5_standsIn_22 rfl (lv_at hl 0 rfl) ?_
      refine va_get (D := (dC, dI)) (ci := 5) (v := .int o_trades) (C := RX5) (T := TX5) (N := 29) hx hb hts uX5_standsIn_X5 hown hK hP 0 rfl rfl 15 (by decide) (hts _ mX5_standsIn_1) (fun _ h9 => h9) rfl dX5_standsIn_23 ?_
      refine lv_if_ne (tgt := 32) hx hb dX5_standsIn_26 (by decide) (fun c_5 => ?_) (fun c_5 => ?_)
      · have hf := pif hf c_5
        refine lv_aload_n hx hb dX5_standsIn_32 rfl (lv_at hl 0 rfl) ?_
        refine lv_iconst (v := (1 : Int32)) hx hb dX5_standsIn_33 (by decide) ?_
        obtain ⟨o_s_6, o_spare_7, hc, hf⟩ := pb2 hf
        refine gCv (va_runV (As := [.int (1 : Int32)]) (rest := []) hF (kX5_aside l dC dI Z cC cI cZ cW a_o a_o_text a_o_need a_o_made a_o_skillTold a_o_placeTold a_o_skips a_o_wheelTold a_o_tunes a_o_s a_o_spare a_o_kept a_o_isKept a_o_makes a_o_works a_o_order _ (0 : Int32) o_trace o_typed o_next o_token o_place o_value o_fault o_trades o_people o_draftTrades o_draftPeople o_isShut o_falling o_s o_spare (1 : Int32) N o_s_6 o_spare_7 hc) (cwV 1 hts gX5_standsIn_X5_aside rfl rfl rfl (by decide +kernel) ⟨Nat.le_of_ble_eq_true rfl, Nat.le_of_ble_eq_true rfl⟩) (gPV (wc := [(a_o, .inr (5, [.int (0 : Int32), .long o_trace, .ref a_o_text, .int o_typed, .int o_next, .int o_token, .int o_place, .int o_value, .int o_fault, .ref a_o_need, .ref a_o_made, .ref a_o_skillTold, .ref a_o_placeTold, .ref a_o_skips, .ref a_o_wheelTold, .int o_trades, .int o_people, .int o_draftTrades, .int o_draftPeople, .int o_isShut, .ref a_o_tunes, .ref a_o_s, .ref a_o_spare, .ref a_o_kept, .ref a_o_isKept, .ref a_o_makes, .ref a_o_works, .ref a_o_order, .int o_falling])), (a_o_s, .inl (cI, 105, .inl o_s)), (a_o_spare, .inl (cI, 105, .inl o_spare))]) hK hN hA hS hP hD [0, 5, 6] rfl rfl (q0 := 0) (ci := 5) rfl rfl rfl) rfl rfl hl.1 rfl (lv_room (Nat.le_of_ble_eq_true rfl)) dX5_standsIn_34 ⟨Nat.zero_le _, Nat.zero_le _⟩) hP hD hS hA [0, 5, 6] rfl rfl rfl (fun H locs hP hD hS => ?_)
        have hP : va_P (dC, dI) vwCl [(a_o, .inr (5, [.int (0 : Int32), .long o_trace, .ref a_o_text, .int o_typed, .int o_next, .int o_token, .int o_place, .int o_value, .int o_fault, .ref a_o_need, .ref a_o_made, .ref a_o_skillTold, .ref a_o_placeTold, .ref a_o_skips, .ref a_o_wheelTold, .int o_trades, .int o_people, .int o_draftTrades, .int o_draftPeople, .int o_isShut, .ref a_o_tunes, .ref a_o_s, .ref a_o_spare, .ref a_o_kept, .ref a_o_isKept, .ref a_o_makes, .ref a_o_works, .ref a_o_order, .int o_falling])), (a_o_need, .inl (cI, 12, .inl o_need)), (a_o_made, .inl (cI, 12, .inl o_made)), (a_o_skips, .inl (cI, 12, .inl o_skips)), (a_o_tunes, .inl (cI, 3, .inl o_tunes)), (a_o_s, .inl (cI, 105, .inl o_s_6)), (a_o_spare, .inl (cI, 105, .inl o_spare_7)), (a_o_makes, .inl (cI, 6, .inl o_makes)), (a_o_works, .inl (cI, 6, .inl o_works))] H := hP
        have hD : va_D A [(a_o, .inr (5, [.int (0 : Int32), .long o_trace, .ref a_o_text, .int o_typed, .int o_next, .int o_token, .int o_place, .int o_value, .int o_fault, .ref a_o_need, .ref a_o_made, .ref a_o_skillTold, .ref a_o_placeTold, .ref a_o_skips, .ref a_o_wheelTold, .int o_trades, .int o_people, .int o_draftTrades, .int o_draftPeople, .int o_isShut, .ref a_o_tunes, .ref a_o_s, .ref a_o_spare, .ref a_o_kept, .ref a_o_isKept, .ref a_o_makes, .ref a_o_works, .ref a_o_order, .int o_falling])), (a_o_need, .inl (cI, 12, .inl o_need)), (a_o_made, .inl (cI, 12, .inl o_made)), (a_o_skips, .inl (cI, 12, .inl o_skips)), (a_o_tunes, .inl (cI, 3, .inl o_tunes)), (a_o_s, .inl (cI, 105, .inl o_s_6)), (a_o_spare, .inl (cI, 105, .inl o_spare_7)), (a_o_makes, .inl (cI, 6, .inl o_makes)), (a_o_works, .inl (cI, 6, .inl o_works))] := hD
        refine lv_aload_n hx hb dX5_standsIn_37 rfl (lv_at hl 0 rfl) ?_
        refine va_get (D := (dC, dI)) (ci := 5) (v := .ref a_o_s) (C := RX5) (T := TX5) (N := 29) hx hb hts uX5_standsIn_X5 hown hK hP 0 rfl rfl 21 (by decide) (hts _ mX5_standsIn_2) (fun _ h9 => h9) rfl dX5_standsIn_38 ?_
        refine lv_bipush (v := (32 : Int32)) hx hb dX5_standsIn_41 (by decide) ?_
        refine lv_dup2_11 hx hb dX5_standsIn_43 rfl rfl ?_
        obtain ⟨h_8, hf⟩ := pgd hf
        refine va_iald hx hb hK hP 5 1 rfl rfl h_8 dX5_standsIn_44 ?_
        refine lv_iconst (v := (1 : Int32)) hx hb dX5_standsIn_45 (by decide) ?_
        refine lv_iload_n hx hb dX5_standsIn_46 rfl (lv_at hl 1 rfl) ?_
        refine lv_ishl hx hb dX5_standsIn_47 ?_
        refine lv_ior hx hb dX5_standsIn_48 ?_
        obtain ⟨h_9, hf⟩ := pgd hf
        refine va_iast hx hb hK hP hD hS 5 1 rfl rfl h_9 dX5_standsIn_49 (fun H locs hP hD hS => ?_)
        have hP : va_P (dC, dI) vwCl [(a_o, .inr (5, [.int (0 : Int32), .long o_trace, .ref a_o_text, .int o_typed, .int o_next, .int o_token, .int o_place, .int o_value, .int o_fault, .ref a_o_need, .ref a_o_made, .ref a_o_skillTold, .ref a_o_placeTold, .ref a_o_skips, .ref a_o_wheelTold, .int o_trades, .int o_people, .int o_draftTrades, .int o_draftPeople, .int o_isShut, .ref a_o_tunes, .ref a_o_s, .ref a_o_spare, .ref a_o_kept, .ref a_o_isKept, .ref a_o_makes, .ref a_o_works, .ref a_o_order, .int o_falling])), (a_o_need, .inl (cI, 12, .inl o_need)), (a_o_made, .inl (cI, 12, .inl o_made)), (a_o_skips, .inl (cI, 12, .inl o_skips)), (a_o_tunes, .inl (cI, 3, .inl o_tunes)), (a_o_s, .inl (cI, 105, .inl (upd o_s_6 (32 : Int32).toNatClampNeg ((o_s_6 (32 : Int32).toNatClampNeg) ||| ((1 : Int32) <<< (i1 &&& 31)))))), (a_o_spare, .inl (cI, 105, .inl o_spare_7)), (a_o_makes, .inl (cI, 6, .inl o_makes)), (a_o_works, .inl (cI, 6, .inl o_works))] H := hP
        have hD : va_D A [(a_o, .inr (5, [.int (0 : Int32), .long o_trace, .ref a_o_text, .int o_typed, .int o_next, .int o_token, .int o_place, .int o_value, .int o_fault, .ref a_o_need, .ref a_o_made, .ref a_o_skillTold, .ref a_o_placeTold, .ref a_o_skips, .ref a_o_wheelTold, .int o_trades, .int o_people, .int o_draftTrades, .int o_draftPeople, .int o_isShut, .ref a_o_tunes, .ref a_o_s, .ref a_o_spare, .ref a_o_kept, .ref a_o_isKept, .ref a_o_makes, .ref a_o_works, .ref a_o_order, .int o_falling])), (a_o_need, .inl (cI, 12, .inl o_need)), (a_o_made, .inl (cI, 12, .inl o_made)), (a_o_skips, .inl (cI, 12, .inl o_skips)), (a_o_tunes, .inl (cI, 3, .inl o_tunes)), (a_o_s, .inl (cI, 105, .inl (upd o_s_6 (32 : Int32).toNatClampNeg ((o_s_6 (32 : Int32).toNatClampNeg) ||| ((1 : Int32) <<< (i1 &&& 31)))))), (a_o_spare, .inl (cI, 105, .inl o_spare_7)), (a_o_makes, .inl (cI, 6, .inl o_makes)), (a_o_works, .inl (cI, 6, .inl o_works))] := hD
        refine lv_iload_n hx hb dX5_standsIn_50 rfl (lv_at hl 1 rfl) ?_
        refine lv_istore_n (lv' := [(3, .int i1), (0, .ref a_o), (1, .int i1), (2, .int i2)]) hx hb dX5_standsIn_51 rfl hl (by decide) rfl (fun ls hl => ?_)
        refine lv_aload_n hx hb dX5_standsIn_52 rfl (lv_at hl 1 rfl) ?_
        refine lv_iload_n hx hb dX5_standsIn_53 rfl (lv_at hl 3 rfl) ?_
        obtain ⟨r_10, o_falling_11, o_s_12, o_makes_13, o_works_14, hc, hf⟩ := pb5 hf
        refine gCi (va_runV (As := [.int i2]) (rest := []) hF (kX5_lacksIn l dC dI Z cC cI cZ cW a_o a_o_text a_o_need a_o_made a_o_skillTold a_o_placeTold a_o_skips a_o_wheelTold a_o_tunes a_o_s a_o_spare a_o_kept a_o_isKept a_o_makes a_o_works a_o_order _ (0 : Int32) o_trace o_typed o_next o_token o_place o_value o_fault o_trades o_people o_draftTrades o_draftPeople o_isShut o_falling o_need o_made o_skips o_tunes (upd o_s_6 (32 : Int32).toNatClampNeg ((o_s_6 (32 : Int32).toNatClampNeg) ||| ((1 : Int32) <<< (i1 &&& 31)))) o_makes o_works i2 N r_10 o_falling_11 o_s_12 o_makes_13 o_works_14 hc) (cwV 1 hts gX5_standsIn_X5_lacksIn rfl rfl rfl (by decide +kernel) ⟨Nat.le_of_ble_eq_true rfl, Nat.le_of_ble_eq_true rfl⟩) (gPV (wc := [(a_o, .inr (5, [.int (0 : Int32), .long o_trace, .ref a_o_text, .int o_typed, .int o_next, .int o_token, .int o_place, .int o_value, .int o_fault, .ref a_o_need, .ref a_o_made, .ref a_o_skillTold, .ref a_o_placeTold, .ref a_o_skips, .ref a_o_wheelTold, .int o_trades, .int o_people, .int o_draftTrades, .int o_draftPeople, .int o_isShut, .ref a_o_tunes, .ref a_o_s, .ref a_o_spare, .ref a_o_kept, .ref a_o_isKept, .ref a_o_makes, .ref a_o_works, .ref a_o_order, .int o_falling])), (a_o_need, .inl (cI, 12, .inl o_need)), (a_o_made, .inl (cI, 12, .inl o_made)), (a_o_skips, .inl (cI, 12, .inl o_skips)), (a_o_tunes, .inl (cI, 3, .inl o_tunes)), (a_o_s, .inl (cI, 105, .inl (upd o_s_6 (32 : Int32).toNatClampNeg ((o_s_6 (32 : Int32).toNatClampNeg) ||| ((1 : Int32) <<< (i1 &&& 31)))))), (a_o_makes, .inl (cI, 6, .inl o_makes)), (a_o_works, .inl (cI, 6, .inl o_works))]) hK hN hA hS hP hD [0, 1, 2, 3, 4, 5, 7, 8] rfl rfl (q0 := 0) (ci := 5) rfl rfl rfl) rfl rfl hl.1 rfl (lv_room (Nat.le_of_ble_eq_true rfl)) dX5_standsIn_54 ⟨Nat.zero_le _, Nat.zero_le _⟩) hP hD hS hA [0, 1, 2, 3, 4, 5, 7, 8] rfl rfl rfl (fun H locs hP hD hS => ?_)
        have hP : va_P (dC, dI) vwCl [(a_o, .inr (5, [.int (0 : Int32), .long o_trace, .ref a_o_text, .int o_typed, .int o_next, .int o_token, .int o_place, .int o_value, .int o_fault, .ref a_o_need, .ref a_o_made, .ref a_o_skillTold, .ref a_o_placeTold, .ref a_o_skips, .ref a_o_wheelTold, .int o_trades, .int o_people, .int o_draftTrades, .int o_draftPeople, .int o_isShut, .ref a_o_tunes, .ref a_o_s, .ref a_o_spare, .ref a_o_kept, .ref a_o_isKept, .ref a_o_makes, .ref a_o_works, .ref a_o_order, .int o_falling_11])), (a_o_need, .inl (cI, 12, .inl o_need)), (a_o_made, .inl (cI, 12, .inl o_made)), (a_o_skips, .inl (cI, 12, .inl o_skips)), (a_o_tunes, .inl (cI, 3, .inl o_tunes)), (a_o_s, .inl (cI, 105, .inl o_s_12)), (a_o_spare, .inl (cI, 105, .inl o_spare_7)), (a_o_makes, .inl (cI, 6, .inl o_makes_13)), (a_o_works, .inl (cI, 6, .inl o_works_14))] H := hP
        have hD : va_D A [(a_o, .inr (5, [.int (0 : Int32), .long o_trace, .ref a_o_text, .int o_typed, .int o_next, .int o_token, .int o_place, .int o_value, .int o_fault, .ref a_o_need, .ref a_o_made, .ref a_o_skillTold, .ref a_o_placeTold, .ref a_o_skips, .ref a_o_wheelTold, .int o_trades, .int o_people, .int o_draftTrades, .int o_draftPeople, .int o_isShut, .ref a_o_tunes, .ref a_o_s, .ref a_o_spare, .ref a_o_kept, .ref a_o_isKept, .ref a_o_makes, .ref a_o_works, .ref a_o_order, .int o_falling_11])), (a_o_need, .inl (cI, 12, .inl o_need)), (a_o_made, .inl (cI, 12, .inl o_made)), (a_o_skips, .inl (cI, 12, .inl o_skips)), (a_o_tunes, .inl (cI, 3, .inl o_tunes)), (a_o_s, .inl (cI, 105, .inl o_s_12)), (a_o_spare, .inl (cI, 105, .inl o_spare_7)), (a_o_makes, .inl (cI, 6, .inl o_makes_13)), (a_o_works, .inl (cI, 6, .inl o_works_14))] := hD
        refine lv_istore (lv' := [(4, .int r_10), (3, .int i1), (0, .ref a_o), (1, .int i1), (2, .int i2)]) hx hb dX5_standsIn_57 hl (by decide) rfl (fun ls hl => ?_)
        refine lv_aload_n hx hb dX5_standsIn_59 rfl (lv_at hl 2 rfl) ?_
        refine lv_iconst (v := (0 : Int32)) hx hb dX5_standsIn_60 (by decide) ?_
        obtain ⟨o_s_15, o_spare_16, hc, hf⟩ := pb2 hf
        refine gCv (va_runV (As := [.int (0 : Int32)]) (rest := []) hF (kX5_aside l dC dI Z cC cI cZ cW a_o a_o_text a_o_need a_o_made a_o_skillTold a_o_placeTold a_o_skips a_o_wheelTold a_o_tunes a_o_s a_o_spare a_o_kept a_o_isKept a_o_makes a_o_works a_o_order _ (0 : Int32) o_trace o_typed o_next o_token o_place o_value o_fault o_trades o_people o_draftTrades o_draftPeople o_isShut o_falling_11 o_s_12 o_spare_7 (0 : Int32) N o_s_15 o_spare_16 hc) (cwV 1 hts gX5_standsIn_X5_aside rfl rfl rfl (by decide +kernel) ⟨Nat.le_of_ble_eq_true rfl, Nat.le_of_ble_eq_true rfl⟩) (gPV (wc := [(a_o, .inr (5, [.int (0 : Int32), .long o_trace, .ref a_o_text, .int o_typed, .int o_next, .int o_token, .int o_place, .int o_value, .int o_fault, .ref a_o_need, .ref a_o_made, .ref a_o_skillTold, .ref a_o_placeTold, .ref a_o_skips, .ref a_o_wheelTold, .int o_trades, .int o_people, .int o_draftTrades, .int o_draftPeople, .int o_isShut, .ref a_o_tunes, .ref a_o_s, .ref a_o_spare, .ref a_o_kept, .ref a_o_isKept, .ref a_o_makes, .ref a_o_works, .ref a_o_order, .int o_falling_11])), (a_o_s, .inl (cI, 105, .inl o_s_12)), (a_o_spare, .inl (cI, 105, .inl o_spare_7))]) hK hN hA hS hP hD [0, 5, 6] rfl rfl (q0 := 0) (ci := 5) rfl rfl rfl) rfl rfl hl.1 rfl (lv_room (Nat.le_of_ble_eq_true rfl)) dX5_standsIn_61 ⟨Nat.zero_le _, Nat.zero_le _⟩) hP hD hS hA [0, 5, 6] rfl rfl rfl (fun H locs hP hD hS => ?_)
        have hP : va_P (dC, dI) vwCl [(a_o, .inr (5, [.int (0 : Int32), .long o_trace, .ref a_o_text, .int o_typed, .int o_next, .int o_token, .int o_place, .int o_value, .int o_fault, .ref a_o_need, .ref a_o_made, .ref a_o_skillTold, .ref a_o_placeTold, .ref a_o_skips, .ref a_o_wheelTold, .int o_trades, .int o_people, .int o_draftTrades, .int o_draftPeople, .int o_isShut, .ref a_o_tunes, .ref a_o_s, .ref a_o_spare, .ref a_o_kept, .ref a_o_isKept, .ref a_o_makes, .ref a_o_works, .ref a_o_order, .int o_falling_11])), (a_o_need, .inl (cI, 12, .inl o_need)), (a_o_made, .inl (cI, 12, .inl o_made)), (a_o_skips, .inl (cI, 12, .inl o_skips)), (a_o_tunes, .inl (cI, 3, .inl o_tunes)), (a_o_s, .inl (cI, 105, .inl o_s_15)), (a_o_spare, .inl (cI, 105, .inl o_spare_16)), (a_o_makes, .inl (cI, 6, .inl o_makes_13)), (a_o_works, .inl (cI, 6, .inl o_works_14))] H := hP
        have hD : va_D A [(a_o, .inr (5, [.int (0 : Int32), .long o_trace, .ref a_o_text, .int o_typed, .int o_next, .int o_token, .int o_place, .int o_value, .int o_fault, .ref a_o_need, .ref a_o_made, .ref a_o_skillTold, .ref a_o_placeTold, .ref a_o_skips, .ref a_o_wheelTold, .int o_trades, .int o_people, .int o_draftTrades, .int o_draftPeople, .int o_isShut, .ref a_o_tunes, .ref a_o_s, .ref a_o_spare, .ref a_o_kept, .ref a_o_isKept, .ref a_o_makes, .ref a_o_works, .ref a_o_order, .int o_falling_11])), (a_o_need, .inl (cI, 12, .inl o_need)), (a_o_made, .inl (cI, 12, .inl o_made)), (a_o_skips, .inl (cI, 12, .inl o_skips)), (a_o_tunes, .inl (cI, 3, .inl o_tunes)), (a_o_s, .inl (cI, 105, .inl o_s_15)), (a_o_spare, .inl (cI, 105, .inl o_spare_16)), (a_o_makes, .inl (cI, 6, .inl o_makes_13)), (a_o_works, .inl (cI, 6, .inl o_works_14))] := hD
        refine lv_iconst (v := (0 : Int32)) hx hb dX5_standsIn_64 (by decide) ?_
        refine lv_istore (lv' := [(5, .int (0 : Int32)), (4, .int r_10), (3, .int i1), (0, .ref a_o), (1, .int i1), (2, .int i2)]) hx hb dX5_standsIn_65 hl (by decide) rfl (fun ls hl => ?_)
        obtain ⟨o_falling_17, o_s_18, o_spare_19, o_makes_20, o_works_21, l3_22, l4_23, l5_24, hc, hf⟩ := pb8 hf
        refine wX5_standsIn_67 hg0 a_o a_o_text a_o_need a_o_made a_o_skillTold a_o_placeTold a_o_skips a_o_wheelTold a_o_tunes a_o_s a_o_spare a_o_kept a_o_isKept a_o_makes a_o_works a_o_order (0 : Int32) o_trace o_typed o_next o_token o_place o_value o_fault o_trades o_people o_draftTrades o_draftPeople o_isShut o_need o_made o_skips o_tunes i1 i2 N N o_falling_11 o_s_15 o_spare_16 o_makes_13 o_works_14 i1 r_10 (0 : Int32) o_falling_17 o_s_18 o_spare_19 o_makes_20 o_works_21 l3_22 l4_23 l5_24 hc _ _ _ hP hD hS (lv_sub hl [3, 4, 5, 2, 1, 0] rfl) (fun H locs ls hP hD hS hl => ?_)
        refine lv_iload_n hx hb dX5_standsIn_179 rfl (lv_at hl 0 rfl) ?_
        have q0 := Option.some.inj hf
        obtain ⟨e0, q1⟩ := Prod.mk.inj q0
        obtain ⟨e1, q2⟩ := Prod.mk.inj q1
        obtain ⟨e2, q3⟩ := Prod.mk.inj q2
        obtain ⟨e3, q4⟩ := Prod.mk.inj q3
        obtain ⟨e4, q5⟩ := Prod.mk.inj q4
        obtain ⟨e5, q6⟩ := Prod.mk.inj q5
        subst e0
        subst e1
        subst e2
        subst e3
        subst e4
        subst e5
        subst q6
        exact gRi hx hb hr hlocks hP hS dX5_standsIn_180
      · have hf := pit hf c_5
        refine lv_bipush (v := (-2 : Int32)) hx hb dX5_standsIn_29 (by decide) ?_
        have q0 := Option.some.inj hf
        obtain ⟨e0, q1⟩ := Prod.mk.inj q0
        obtain ⟨e1, q2⟩ := Prod.mk.inj q1
        obtain ⟨e2, q3⟩ := Prod.mk.inj q2
        obtain ⟨e3, q4⟩ := Prod.mk.inj q3
        obtain ⟨e4, q5⟩ := Prod.mk.inj q4
        obtain ⟨e5, q6⟩ := Prod.mk.inj q5
        subst e0
        subst e1
        subst e2
        subst e3
        subst e4
        subst e5
        subst q6
        exact gRi hx hb hr hlocks hP hS dX5_standsIn_31
    · have hf := pit hf c_4
      refine lv_iconst (v := (-1 : Int32)) hx hb dX5_standsIn_20 (by decide) ?_
      have q0 := Option.some.inj hf
      obtain ⟨e0, q1⟩ := Prod.mk.inj q0
      obtain ⟨e1, q2⟩ := Prod.mk.inj q1
      obtain ⟨e2, q3⟩ := Prod.mk.inj q2
      obtain ⟨e3, q4⟩ := Prod.mk.inj q3
      obtain ⟨e4, q5⟩ := Prod.mk.inj q4
      obtain ⟨e5, q6⟩ := Prod.mk.inj q5
      subst e0
      subst e1
      subst e2
      subst e3
      subst e4
      subst e5
      subst q6
      exact gRi hx hb hr hlocks hP hS dX5_standsIn_21
abbrev rmX5_madeBy : Room := { frames := 4, cells := 0, slots := 0, locals := 93 }
set_option maxRecDepth 20000 in
theorem uX5_madeBy_X5 : ∀ w ∈ wsX50, w ∈ wsX5_madeBy := by decide +kernel
set_option maxRecDepth 20000 in
theorem mX5_madeBy_0 : (Cond.fieldLink RX5 59 "TradeWheelModel" "thrown" "I" : Cond) ∈ wsX5_madeBy := by decide +kernel
set_option maxRecDepth 20000 in
theorem mX5_madeBy_1 : (Cond.fieldLink RX5 34 "TradeWheelModel" "s" "[I" : Cond) ∈ wsX5_madeBy := by decide +kernel
set_option maxRecDepth 20000 in
theorem mX5_madeBy_2 : (Cond.fieldLink RX5 140 "TradeWheelModel" "people" "I" : Cond) ∈ wsX5_madeBy := by decide +kernel
set_option maxHeartbeats 4000000 in
set_option maxRecDepth 100000 in
theorem wX5_madeBy_45 {p : Program} {l : Launch} {e : Env} {s : State} {m : MethodId} {args : Array Value} {below : List Frame} {meth : Method} {c : Code} {Q : State → Prop} {A : Nat → Prop} {dC : Nat → ClassId} {dI : Nat → Nat → Nat} {Z : gZ} {cC cI cZ cW : ClassId} (hg0 : gX p s m args meth c cX5_madeBy 6 (some .int) wsX5_madeBy RX5 (dC, dI) Z [(cC, .char), (cI, .int), (cZ, .boolean), (cW, .object RX3)] A) (a_o a_o_text a_o_need a_o_made a_o_skillTold a_o_placeTold a_o_skips a_o_wheelTold a_o_tunes a_o_s a_o_spare a_o_kept a_o_isKept a_o_makes a_o_works a_o_order : Nat) (o_thrown : Int32) (o_trace : Int64) (o_typed : Int32) (o_next : Int32) (o_token : Int32) (o_place : Int32) (o_value : Int32) (o_fault : Int32) (o_trades : Int32) (o_people : Int32) (o_draftTrades : Int32) (o_draftPeople : Int32) (o_isShut : Int32) (o_falling : Int32) (o_need : Nat → Int32) (o_made : Nat → Int32) (o_skips : Nat → Int32) (o_tunes : Nat → Int32) (o_spare : Nat → Int32) (l1 : Int32) (l2 : Int32) (l3 : Int32) (N : Nat) : ∀ (n : Nat) (o_s : Nat → Int32) (o_makes : Nat → Int32) (o_works : Nat → Int32) (o_s' : Nat → Int32) (o_makes' : Nat → Int32) (o_works' : Nat → Int32), fX5_madeBy_45 N o_trades o_people o_need o_made o_skips o_tunes l3 n o_s o_makes o_works = some (o_s', o_makes', o_works') → ∀ (H : Heap) (locs : List Loc) (ls : Array Slot), va_P (dC, dI) vwCl [(a_o, .inr (5, [.int o_thrown, .long o_trace, .ref a_o_text, .int o_typed, .int o_next, .int o_token, .int o_place, .int o_value, .int o_fault, .ref a_o_need, .ref a_o_made, .ref a_o_skillTold, .ref a_o_placeTold, .ref a_o_skips, .ref a_o_wheelTold, .int o_trades, .int o_people, .int o_draftTrades, .int o_draftPeople, .int o_isShut, .ref a_o_tunes, .ref a_o_s, .ref a_o_spare, .ref a_o_kept, .ref a_o_isKept, .ref a_o_makes, .ref a_o_works, .ref a_o_order, .int o_falling])), (a_o_need, .inl (cI, 12, .inl o_need)), (a_o_made, .inl (cI, 12, .inl o_made)), (a_o_skips, .inl (cI, 12, .inl o_skips)), (a_o_tunes, .inl (cI, 3, .inl o_tunes)), (a_o_s, .inl (cI, 105, .inl o_s)), (a_o_spare, .inl (cI, 105, .inl o_spare)), (a_o_makes, .inl (cI, 6, .inl o_makes)), (a_o_works, .inl (cI, 6, .inl o_works))] H → va_D A [(a_o, .inr (5, [.int o_thrown, .long o_trace, .ref a_o_text, .int o_typed, .int o_next, .int o_token, .int o_place, .int o_value, .int o_fault, .ref a_o_need, .ref a_o_made, .ref a_o_skillTold, .ref a_o_placeTold, .ref a_o_skips, .ref a_o_wheelTold, .int o_trades, .int o_people, .int o_draftTrades, .int o_draftPeople, .int o_isShut, .ref a_o_tunes, .ref a_o_s, .ref a_o_spare, .ref a_o_kept, .ref a_o_isKept, .ref a_o_makes, .ref a_o_works, .ref a_o_order, .int o_falling])), (a_o_need, .inl (cI, 12, .inl o_need)), (a_o_made, .inl (cI, 12, .inl o_made)), (a_o_skips, .inl (cI, 12, .inl o_skips)), (a_o_tunes, .inl (cI, 3, .inl o_tunes)), (a_o_s, .inl (cI, 105, .inl o_s)), (a_o_spare, .inl (cI, 105, .inl o_spare)), (a_o_makes, .inl (cI, 6, .inl o_makes)), (a_o_works, .inl (cI, 6, .inl o_works))] → va_S A s.heap H locs → lv_has ls 6 [(0, .ref a_o), (1, .int l1), (2, .int l2), (3, .int l3)] → (∀ (H : Heap) (locs : List Loc) (ls : Array Slot), va_P (dC, dI) vwCl [(a_o, .inr (5, [.int o_thrown, .long o_trace, .ref a_o_text, .int o_typed, .int o_next, .int o_token, .int o_place, .int o_value, .int o_fault, .ref a_o_need, .ref a_o_made, .ref a_o_skillTold, .ref a_o_placeTold, .ref a_o_skips, .ref a_o_wheelTold, .int o_trades, .int o_people, .int o_draftTrades, .int o_draftPeople, .int o_isShut, .ref a_o_tunes, .ref a_o_s, .ref a_o_spare, .ref a_o_kept, .ref a_o_isKept, .ref a_o_makes, .ref a_o_works, .ref a_o_order, .int o_falling])), (a_o_need, .inl (cI, 12, .inl o_need)), (a_o_made, .inl (cI, 12, .inl o_made)), (a_o_skips, .inl (cI, 12, .inl o_skips)), (a_o_tunes, .inl (cI, 3, .inl o_tunes)), (a_o_s, .inl (cI, 105, .inl o_s')), (a_o_spare, .inl (cI, 105, .inl o_spare)), (a_o_makes, .inl (cI, 6, .inl o_makes')), (a_o_works, .inl (cI, 6, .inl o_works'))] H → va_D A [(a_o, .inr (5, [.int o_thrown, .long o_trace, .ref a_o_text, .int o_typed, .int o_next, .int o_token, .int o_place, .int o_value, .int o_fault, .ref a_o_need, .ref a_o_made, .ref a_o_skillTold, .ref a_o_placeTold, .ref a_o_skips, .ref a_o_wheelTold, .int o_trades, .int o_people, .int o_draftTrades, .int o_draftPeople, .int o_isShut, .ref a_o_tunes, .ref a_o_s, .ref a_o_spare, .ref a_o_kept, .ref a_o_isKept, .ref a_o_makes, .ref a_o_works, .ref a_o_order, .int o_falling])), (a_o_need, .inl (cI, 12, .inl o_need)), (a_o_made, .inl (cI, 12, .inl o_made)), (a_o_skips, .inl (cI, 12, .inl o_skips)), (a_o_tunes, .inl (cI, 3, .inl o_tunes)), (a_o_s, .inl (cI, 105, .inl o_s')), (a_o_spare, .inl (cI, 105, .inl o_spare)), (a_o_makes, .inl (cI, 6, .inl o_makes')), (a_o_works, .inl (cI, 6, .inl o_works'))] → va_S A s.heap H locs → lv_has ls 6 [(0, .ref a_o), (1, .int l1), (2, .int l2)] → W p l e (headSpec wsX5_madeBy rmX5_madeBy).room s m args below meth c H locs 0 0 Q (F0 m 63 ls [])) → W p l e (headSpec wsX5_madeBy rmX5_madeBy).room s m args below meth c H locs 0 0 Q (F0 m 45 ls []) := by
  obtain ⟨hx, hb, hr, hml, hown, hts, hlocks, hA, hK, hN⟩ := id hg0
  have hF : CallFix p m c cX5_madeBy 6 s args wsX5_madeBy RX5 := ⟨hx, hb, hml, hown, hts⟩
  intro n
  induction n with
  | zero =>
    intro o_s o_makes o_works o_s' o_makes' o_works' hf
    have hf := fX5_madeBy_45_0.symm.trans hf
    cases hf
  | succ n ih =>
    intro o_s o_makes o_works o_s' o_makes' o_works' hf H locs ls hP hD hS hl kx
    have hf := fX5_madeBy_45_s.symm.trans hf
    refine lv_aload_n hx hb dX5_madeBy_45 rfl (lv_at hl 0 rfl) ?_
    refine va_get (D := (dC, dI)) (ci := 5) (v := .ref a_o_s) (C := RX5) (T := TX5) (N := 29) hx hb hts uX5_madeBy_X5 hown hK hP 0 rfl rfl 21 (by decide) (hts _ mX5_madeBy_1) (fun _ h9 => h9) rfl dX5_madeBy_46 ?_
    refine lv_iconst (v := (0 : Int32)) hx hb dX5_madeBy_49 (by decide) ?_
    obtain ⟨h_1, hf⟩ := pgd hf
    refine va_iald hx hb hK hP 5 1 rfl rfl h_1 dX5_madeBy_50 ?_
    refine lv_iload_n hx hb dX5_madeBy_51 rfl (lv_at hl 3 rfl) ?_
    refine lv_icmp_ge (tgt := 63) hx hb dX5_madeBy_52 (by decide) (fun c_2 => ?_) (fun c_2 => ?_)
    · have hf := pit hf c_2
      have q0 := Option.some.inj hf
      obtain ⟨e0, q1⟩ := Prod.mk.inj q0
      obtain ⟨e1, q2⟩ := Prod.mk.inj q1
      subst e0
      subst e1
      subst q2
      exact kx _ _ _ hP hD hS (lv_sub hl [0, 1, 2] rfl)
    · have hf := pif hf c_2
      refine lv_aload_n hx hb dX5_madeBy_55 rfl (lv_at hl 0 rfl) ?_
      obtain ⟨r_3, o_s_4, o_makes_5, o_works_6, hc, hf⟩ := pb4 hf
      refine gCi (va_runV (As := []) (rest := []) hF (kX5_goesBy l dC dI Z cC cI cZ cW a_o a_o_text a_o_need a_o_made a_o_skillTold a_o_placeTold a_o_skips a_o_wheelTold a_o_tunes a_o_s a_o_spare a_o_kept a_o_isKept a_o_makes a_o_works a_o_order _ o_thrown o_trace o_typed o_next o_token o_place o_value o_fault o_trades o_people o_draftTrades o_draftPeople o_isShut o_falling o_need o_made o_skips o_tunes o_s o_makes o_works  N r_3 o_s_4 o_makes_5 o_works_6 hc) (cwV 0 hts gX5_madeBy_X5_goesBy rfl rfl rfl (by decide +kernel) ⟨Nat.le_of_ble_eq_true rfl, Nat.le_of_ble_eq_true rfl⟩) (gPV (wc := [(a_o, .inr (5, [.int o_thrown, .long o_trace, .ref a_o_text, .int o_typed, .int o_next, .int o_token, .int o_place, .int o_value, .int o_fault, .ref a_o_need, .ref a_o_made, .ref a_o_skillTold, .ref a_o_placeTold, .ref a_o_skips, .ref a_o_wheelTold, .int o_trades, .int o_people, .int o_draftTrades, .int o_draftPeople, .int o_isShut, .ref a_o_tunes, .ref a_o_s, .ref a_o_spare, .ref a_o_kept, .ref a_o_isKept, .ref a_o_makes, .ref a_o_works, .ref a_o_order, .int o_falling])), (a_o_need, .inl (cI, 12, .inl o_need)), (a_o_made, .inl (cI, 12, .inl o_made)), (a_o_skips, .inl (cI, 12, .inl o_skips)), (a_o_tunes, .inl (cI, 3, .inl o_tunes)), (a_o_s, .inl (cI, 105, .inl o_s)), (a_o_makes, .inl (cI, 6, .inl o_makes)), (a_o_works, .inl (cI, 6, .inl o_works))]) hK hN hA hS hP hD [0, 1, 2, 3, 4, 5, 7, 8] rfl rfl (q0 := 0) (ci := 5) rfl rfl rfl) rfl rfl hl.1 rfl (lv_room (Nat.le_of_ble_eq_true rfl)) dX5_madeBy_56 ⟨Nat.zero_le _, Nat.zero_le _⟩) hP hD hS hA [0, 1, 2, 3, 4, 5, 7, 8] rfl rfl rfl (fun H locs hP hD hS => ?_)
      have hP : va_P (dC, dI) vwCl [(a_o, .inr (5, [.int o_thrown, .long o_trace, .ref a_o_text, .int o_typed, .int o_next, .int o_token, .int o_place, .int o_value, .int o_fault, .ref a_o_need, .ref a_o_made, .ref a_o_skillTold, .ref a_o_placeTold, .ref a_o_skips, .ref a_o_wheelTold, .int o_trades, .int o_people, .int o_draftTrades, .int o_draftPeople, .int o_isShut, .ref a_o_tunes, .ref a_o_s, .ref a_o_spare, .ref a_o_kept, .ref a_o_isKept, .ref a_o_makes, .ref a_o_works, .ref a_o_order, .int o_falling])), (a_o_need, .inl (cI, 12, .inl o_need)), (a_o_made, .inl (cI, 12, .inl o_made)), (a_o_skips, .inl (cI, 12, .inl o_skips)), (a_o_tunes, .inl (cI, 3, .inl o_tunes)), (a_o_s, .inl (cI, 105, .inl o_s_4)), (a_o_spare, .inl (cI, 105, .inl o_spare)), (a_o_makes, .inl (cI, 6, .inl o_makes_5)), (a_o_works, .inl (cI, 6, .inl o_works_6))] H := hP
      have hD : va_D A [(a_o, .inr (5, [.int o_thrown, .long o_trace, .ref a_o_text, .int o_typed, .int o_next, .int o_token, .int o_place, .int o_value, .int o_fault, .ref a_o_need, .ref a_o_made, .ref a_o_skillTold, .ref a_o_placeTold, .ref a_o_skips, .ref a_o_wheelTold, .int o_trades, .int o_people, .int o_draftTrades, .int o_draftPeople, .int o_isShut, .ref a_o_tunes, .ref a_o_s, .ref a_o_spare, .ref a_o_kept, .ref a_o_isKept, .ref a_o_makes, .ref a_o_works, .ref a_o_order, .int o_falling])), (a_o_need, .inl (cI, 12, .inl o_need)), (a_o_made, .inl (cI, 12, .inl o_made)), (a_o_skips, .inl (cI, 12, .inl o_skips)), (a_o_tunes, .inl (cI, 3, .inl o_tunes)), (a_o_s, .inl (cI, 105, .inl o_s_4)), (a_o_spare, .inl (cI, 105, .inl o_spare)), (a_o_makes, .inl (cI, 6, .inl o_makes_5)), (a_o_works, .inl (cI, 6, .inl o_works_6))] := hD
      refine lv_pop hx hb dX5_madeBy_59 rfl ?_
      refine lv_goto (tgt := 45) hx hb dX5_madeBy_60 (by decide) ?_
      exact ih _ _ _ _ _ _ hf _ _ _ hP hD hS (lv_sub hl [0, 1, 2, 3] rfl) kx
set_option maxHeartbeats 4000000 in
set_option maxRecDepth 100000 in
theorem wX5_madeBy_69 {p : Program} {l : Launch} {e : Env} {s : State} {m : MethodId} {args : Array Value} {below : List Frame} {meth : Method} {c : Code} {Q : State → Prop} {A : Nat → Prop} {dC : Nat → ClassId} {dI : Nat → Nat → Nat} {Z : gZ} {cC cI cZ cW : ClassId} (hg0 : gX p s m args meth c cX5_madeBy 6 (some .int) wsX5_madeBy RX5 (dC, dI) Z [(cC, .char), (cI, .int), (cZ, .boolean), (cW, .object RX3)] A) (a_o a_o_text a_o_need a_o_made a_o_skillTold a_o_placeTold a_o_skips a_o_wheelTold a_o_tunes a_o_s a_o_spare a_o_kept a_o_isKept a_o_makes a_o_works a_o_order : Nat) (o_thrown : Int32) (o_trace : Int64) (o_typed : Int32) (o_next : Int32) (o_token : Int32) (o_place : Int32) (o_value : Int32) (o_fault : Int32) (o_trades : Int32) (o_people : Int32) (o_draftTrades : Int32) (o_draftPeople : Int32) (o_isShut : Int32) (o_falling : Int32) (o_need : Nat → Int32) (o_made : Nat → Int32) (o_skips : Nat → Int32) (o_tunes : Nat → Int32) (o_s : Nat → Int32) (o_spare : Nat → Int32) (o_makes : Nat → Int32) (o_works : Nat → Int32) (l1 : Int32) (l2 : Int32) (N : Nat) : ∀ (n : Nat) (l4 : Int32) (l5 : Int32) (l4' : Int32) (l5' : Int32), fX5_madeBy_69 N o_trades o_people o_skips o_s l1 l2 n l4 l5 = some (l4', l5') → ∀ (H : Heap) (locs : List Loc) (ls : Array Slot), va_P (dC, dI) vwCl [(a_o, .inr (5, [.int o_thrown, .long o_trace, .ref a_o_text, .int o_typed, .int o_next, .int o_token, .int o_place, .int o_value, .int o_fault, .ref a_o_need, .ref a_o_made, .ref a_o_skillTold, .ref a_o_placeTold, .ref a_o_skips, .ref a_o_wheelTold, .int o_trades, .int o_people, .int o_draftTrades, .int o_draftPeople, .int o_isShut, .ref a_o_tunes, .ref a_o_s, .ref a_o_spare, .ref a_o_kept, .ref a_o_isKept, .ref a_o_makes, .ref a_o_works, .ref a_o_order, .int o_falling])), (a_o_need, .inl (cI, 12, .inl o_need)), (a_o_made, .inl (cI, 12, .inl o_made)), (a_o_skips, .inl (cI, 12, .inl o_skips)), (a_o_tunes, .inl (cI, 3, .inl o_tunes)), (a_o_s, .inl (cI, 105, .inl o_s)), (a_o_spare, .inl (cI, 105, .inl o_spare)), (a_o_makes, .inl (cI, 6, .inl o_makes)), (a_o_works, .inl (cI, 6, .inl o_works))] H → va_D A [(a_o, .inr (5, [.int o_thrown, .long o_trace, .ref a_o_text, .int o_typed, .int o_next, .int o_token, .int o_place, .int o_value, .int o_fault, .ref a_o_need, .ref a_o_made, .ref a_o_skillTold, .ref a_o_placeTold, .ref a_o_skips, .ref a_o_wheelTold, .int o_trades, .int o_people, .int o_draftTrades, .int o_draftPeople, .int o_isShut, .ref a_o_tunes, .ref a_o_s, .ref a_o_spare, .ref a_o_kept, .ref a_o_isKept, .ref a_o_makes, .ref a_o_works, .ref a_o_order, .int o_falling])), (a_o_need, .inl (cI, 12, .inl o_need)), (a_o_made, .inl (cI, 12, .inl o_made)), (a_o_skips, .inl (cI, 12, .inl o_skips)), (a_o_tunes, .inl (cI, 3, .inl o_tunes)), (a_o_s, .inl (cI, 105, .inl o_s)), (a_o_spare, .inl (cI, 105, .inl o_spare)), (a_o_makes, .inl (cI, 6, .inl o_makes)), (a_o_works, .inl (cI, 6, .inl o_works))] → va_S A s.heap H locs → lv_has ls 6 [(0, .ref a_o), (1, .int l1), (2, .int l2), (4, .int l4), (5, .int l5)] → (∀ (H : Heap) (locs : List Loc) (ls : Array Slot), va_P (dC, dI) vwCl [(a_o, .inr (5, [.int o_thrown, .long o_trace, .ref a_o_text, .int o_typed, .int o_next, .int o_token, .int o_place, .int o_value, .int o_fault, .ref a_o_need, .ref a_o_made, .ref a_o_skillTold, .ref a_o_placeTold, .ref a_o_skips, .ref a_o_wheelTold, .int o_trades, .int o_people, .int o_draftTrades, .int o_draftPeople, .int o_isShut, .ref a_o_tunes, .ref a_o_s, .ref a_o_spare, .ref a_o_kept, .ref a_o_isKept, .ref a_o_makes, .ref a_o_works, .ref a_o_order, .int o_falling])), (a_o_need, .inl (cI, 12, .inl o_need)), (a_o_made, .inl (cI, 12, .inl o_made)), (a_o_skips, .inl (cI, 12, .inl o_skips)), (a_o_tunes, .inl (cI, 3, .inl o_tunes)), (a_o_s, .inl (cI, 105, .inl o_s)), (a_o_spare, .inl (cI, 105, .inl o_spare)), (a_o_makes, .inl (cI, 6, .inl o_makes)), (a_o_works, .inl (cI, 6, .inl o_works))] H → va_D A [(a_o, .inr (5, [.int o_thrown, .long o_trace, .ref a_o_text, .int o_typed, .int o_next, .int o_token, .int o_place, .int o_value, .int o_fault, .ref a_o_need, .ref a_o_made, .ref a_o_skillTold, .ref a_o_placeTold, .ref a_o_skips, .ref a_o_wheelTold, .int o_trades, .int o_people, .int o_draftTrades, .int o_draftPeople, .int o_isShut, .ref a_o_tunes, .ref a_o_s, .ref a_o_spare, .ref a_o_kept, .ref a_o_isKept, .ref a_o_makes, .ref a_o_works, .ref a_o_order, .int o_falling])), (a_o_need, .inl (cI, 12, .inl o_need)), (a_o_made, .inl (cI, 12, .inl o_made)), (a_o_skips, .inl (cI, 12, .inl o_skips)), (a_o_tunes, .inl (cI, 3, .inl o_tunes)), (a_o_s, .inl (cI, 105, .inl o_s)), (a_o_spare, .inl (cI, 105, .inl o_spare)), (a_o_makes, .inl (cI, 6, .inl o_makes)), (a_o_works, .inl (cI, 6, .inl o_works))] → va_S A s.heap H locs → lv_has ls 6 [(0, .ref a_o), (4, .int l4')] → W p l e (headSpec wsX5_madeBy rmX5_madeBy).room s m args below meth c H locs 0 0 Q (F0 m 135 ls [])) → W p l e (headSpec wsX5_madeBy rmX5_madeBy).room s m args below meth c H locs 0 0 Q (F0 m 69 ls []) := by
  obtain ⟨hx, hb, hr, hml, hown, hts, hlocks, hA, hK, hN⟩ := id hg0
  have hF : CallFix p m c cX5_madeBy 6 s args wsX5_madeBy RX5 := ⟨hx, hb, hml, hown, hts⟩
  intro n
  induction n with
  | zero =>
    intro l4 l5 l4' l5' hf
    have hf := fX5_madeBy_69_0.symm.trans hf
    cases hf
  | succ n ih =>
    intro l4 l5 l4' l5' hf H locs ls hP hD hS hl kx
    have hf := fX5_madeBy_69_s.symm.trans hf
    refine lv_iload hx hb dX5_madeBy_69 (lv_at hl 4 rfl) ?_
    refine lv_aload_n hx hb dX5_madeBy_71 rfl (lv_at hl 0 rfl) ?_
    refine va_get (D := (dC, dI)) (ci := 5) (v := .int o_people) (C := RX5) (T := TX5) (N := 29) hx hb hts uX5_madeBy_X5 hown hK hP 0 rfl rfl 16 (by decide) (hts _ mX5_madeBy_2) (fun _ h9 => h9) rfl dX5_madeBy_72 ?_
    refine lv_icmp_ge (tgt := 135) hx hb dX5_madeBy_75 (by decide) (fun c_1 => ?_) (fun c_1 => ?_)
    · have hf := pit hf c_1
      have q0 := Option.some.inj hf
      obtain ⟨e0, q1⟩ := Prod.mk.inj q0
      subst e0
      subst q1
      exact kx _ _ _ hP hD hS (lv_sub hl [0, 3] rfl)
    · have hf := pif hf c_1
      refine lv_iload hx hb dX5_madeBy_78 (lv_at hl 3 rfl) ?_
      refine lv_aload_n hx hb dX5_madeBy_80 rfl (lv_at hl 0 rfl) ?_
      refine lv_iload hx hb dX5_madeBy_81 (lv_at hl 4 rfl) ?_
      obtain ⟨r_2, hc, hf⟩ := pb1 hf
      refine gCi (va_runV (As := [.int l5]) (rest := [.int l4]) hF (kX5_isIll l dC dI Z cC cI cZ cW a_o a_o_text a_o_need a_o_made a_o_skillTold a_o_placeTold a_o_skips a_o_wheelTold a_o_tunes a_o_s a_o_spare a_o_kept a_o_isKept a_o_makes a_o_works a_o_order _ o_thrown o_trace o_typed o_next o_token o_place o_value o_fault o_trades o_people o_draftTrades o_draftPeople o_isShut o_falling o_s l5 N r_2 hc) (cwV 1 hts gX5_madeBy_X5_isIll rfl rfl rfl (by decide +kernel) ⟨Nat.le_of_ble_eq_true rfl, Nat.le_of_ble_eq_true rfl⟩) (gPV (wc := [(a_o, .inr (5, [.int o_thrown, .long o_trace, .ref a_o_text, .int o_typed, .int o_next, .int o_token, .int o_place, .int o_value, .int o_fault, .ref a_o_need, .ref a_o_made, .ref a_o_skillTold, .ref a_o_placeTold, .ref a_o_skips, .ref a_o_wheelTold, .int o_trades, .int o_people, .int o_draftTrades, .int o_draftPeople, .int o_isShut, .ref a_o_tunes, .ref a_o_s, .ref a_o_spare, .ref a_o_kept, .ref a_o_isKept, .ref a_o_makes, .ref a_o_works, .ref a_o_order, .int o_falling])), (a_o_s, .inl (cI, 105, .inl o_s))]) hK hN hA hS hP hD [0, 5] rfl rfl (q0 := 0) (ci := 5) rfl rfl rfl) rfl rfl hl.1 rfl (lv_room (Nat.le_of_ble_eq_true rfl)) dX5_madeBy_83 ⟨Nat.zero_le _, Nat.zero_le _⟩) hP hD hS hA [0, 5] rfl rfl rfl (fun H locs hP hD hS => ?_)
      have hP : va_P (dC, dI) vwCl [(a_o, .inr (5, [.int o_thrown, .long o_trace, .ref a_o_text, .int o_typed, .int o_next, .int o_token, .int o_place, .int o_value, .int o_fault, .ref a_o_need, .ref a_o_made, .ref a_o_skillTold, .ref a_o_placeTold, .ref a_o_skips, .ref a_o_wheelTold, .int o_trades, .int o_people, .int o_draftTrades, .int o_draftPeople, .int o_isShut, .ref a_o_tunes, .ref a_o_s, .ref a_o_spare, .ref a_o_kept, .ref a_o_isKept, .ref a_o_makes, .ref a_o_works, .ref a_o_order, .int o_falling])), (a_o_need, .inl (cI, 12, .inl o_need)), (a_o_made, .inl (cI, 12, .inl o_made)), (a_o_skips, .inl (cI, 12, .inl o_skips)), (a_o_tunes, .inl (cI, 3, .inl o_tunes)), (a_o_s, .inl (cI, 105, .inl o_s)), (a_o_spare, .inl (cI, 105, .inl o_spare)), (a_o_makes, .inl (cI, 6, .inl o_makes)), (a_o_works, .inl (cI, 6, .inl o_works))] H := hP
      have hD : va_D A [(a_o, .inr (5, [.int o_thrown, .long o_trace, .ref a_o_text, .int o_typed, .int o_next, .int o_token, .int o_place, .int o_value, .int o_fault, .ref a_o_need, .ref a_o_made, .ref a_o_skillTold, .ref a_o_placeTold, .ref a_o_skips, .ref a_o_wheelTold, .int o_trades, .int o_people, .int o_draftTrades, .int o_draftPeople, .int o_isShut, .ref a_o_tunes, .ref a_o_s, .ref a_o_spare, .ref a_o_kept, .ref a_o_isKept, .ref a_o_makes, .ref a_o_works, .ref a_o_order, .int o_falling])), (a_o_need, .inl (cI, 12, .inl o_need)), (a_o_made, .inl (cI, 12, .inl o_made)), (a_o_skips, .inl (cI, 12, .inl o_skips)), (a_o_tunes, .inl (cI, 3, .inl o_tunes)), (a_o_s, .inl (cI, 105, .inl o_s)), (a_o_spare, .inl (cI, 105, .inl o_spare)), (a_o_makes, .inl (cI, 6, .inl o_makes)), (a_o_works, .inl (cI, 6, .inl o_works))] := hD
      refine lv_if_ne (tgt := 125) hx hb dX5_madeBy_86 (by decide) (fun c_3 => ?_) (fun c_3 => ?_)
      · have hf := pif hf c_3
        refine lv_iconst (v := (0 : Int32)) hx hb dX5_madeBy_125 (by decide) ?_
        refine lv_ior hx hb dX5_madeBy_126 ?_
        refine lv_istore (lv' := [(4, .int (l4 ||| (0 : Int32))), (0, .ref a_o), (1, .int l1), (2, .int l2), (5, .int l5)]) hx hb dX5_madeBy_127 hl (by decide) rfl (fun ls hl => ?_)
        refine lv_iinc (v := (l5 + 1)) (lv' := [(5, .int (l5 + 1)), (4, .int (l4 ||| (0 : Int32))), (0, .ref a_o), (1, .int l1), (2, .int l2)]) hx hb dX5_madeBy_129 hl (k := 4) rfl rfl (by decide) rfl (fun ls hl => ?_)
        refine lv_goto (tgt := 69) hx hb dX5_madeBy_132 (by decide) ?_
        exact ih _ _ _ _ hf _ _ _ hP hD hS (lv_sub hl [2, 3, 4, 1, 0] rfl) kx
      · have hf := pit hf c_3
        refine lv_aload_n hx hb dX5_madeBy_89 rfl (lv_at hl 0 rfl) ?_
        refine lv_iload hx hb dX5_madeBy_90 (lv_at hl 4 rfl) ?_
        obtain ⟨r_4, hc, hf⟩ := pb1 hf
        refine gCi (va_runV (As := [.int l5]) (rest := [.int l4]) hF (kX5_worksAt l dC dI Z cC cI cZ cW a_o a_o_text a_o_need a_o_made a_o_skillTold a_o_placeTold a_o_skips a_o_wheelTold a_o_tunes a_o_s a_o_spare a_o_kept a_o_isKept a_o_makes a_o_works a_o_order _ o_thrown o_trace o_typed o_next o_token o_place o_value o_fault o_trades o_people o_draftTrades o_draftPeople o_isShut o_falling o_skips o_s l5 N r_4 hc) (cwV 1 hts gX5_madeBy_X5_worksAt rfl rfl rfl (by decide +kernel) ⟨Nat.le_of_ble_eq_true rfl, Nat.le_of_ble_eq_true rfl⟩) (gPV (wc := [(a_o, .inr (5, [.int o_thrown, .long o_trace, .ref a_o_text, .int o_typed, .int o_next, .int o_token, .int o_place, .int o_value, .int o_fault, .ref a_o_need, .ref a_o_made, .ref a_o_skillTold, .ref a_o_placeTold, .ref a_o_skips, .ref a_o_wheelTold, .int o_trades, .int o_people, .int o_draftTrades, .int o_draftPeople, .int o_isShut, .ref a_o_tunes, .ref a_o_s, .ref a_o_spare, .ref a_o_kept, .ref a_o_isKept, .ref a_o_makes, .ref a_o_works, .ref a_o_order, .int o_falling])), (a_o_skips, .inl (cI, 12, .inl o_skips)), (a_o_s, .inl (cI, 105, .inl o_s))]) hK hN hA hS hP hD [0, 3, 5] rfl rfl (q0 := 0) (ci := 5) rfl rfl rfl) rfl rfl hl.1 rfl (lv_room (Nat.le_of_ble_eq_true rfl)) dX5_madeBy_92 ⟨Nat.zero_le _, Nat.zero_le _⟩) hP hD hS hA [0, 3, 5] rfl rfl rfl (fun H locs hP hD hS => ?_)
        have hP : va_P (dC, dI) vwCl [(a_o, .inr (5, [.int o_thrown, .long o_trace, .ref a_o_text, .int o_typed, .int o_next, .int o_token, .int o_place, .int o_value, .int o_fault, .ref a_o_need, .ref a_o_made, .ref a_o_skillTold, .ref a_o_placeTold, .ref a_o_skips, .ref a_o_wheelTold, .int o_trades, .int o_people, .int o_draftTrades, .int o_draftPeople, .int o_isShut, .ref a_o_tunes, .ref a_o_s, .ref a_o_spare, .ref a_o_kept, .ref a_o_isKept, .ref a_o_makes, .ref a_o_works, .ref a_o_order, .int o_falling])), (a_o_need, .inl (cI, 12, .inl o_need)), (a_o_made, .inl (cI, 12, .inl o_made)), (a_o_skips, .inl (cI, 12, .inl o_skips)), (a_o_tunes, .inl (cI, 3, .inl o_tunes)), (a_o_s, .inl (cI, 105, .inl o_s)), (a_o_spare, .inl (cI, 105, .inl o_spare)), (a_o_makes, .inl (cI, 6, .inl o_makes)), (a_o_works, .inl (cI, 6, .inl o_works))] H := hP
        have hD : va_D A [(a_o, .inr (5, [.int o_thrown, .long o_trace, .ref a_o_text, .int o_typed, .int o_next, .int o_token, .int o_place, .int o_value, .int o_fault, .ref a_o_need, .ref a_o_made, .ref a_o_skillTold, .ref a_o_placeTold, .ref a_o_skips, .ref a_o_wheelTold, .int o_trades, .int o_people, .int o_draftTrades, .int o_draftPeople, .int o_isShut, .ref a_o_tunes, .ref a_o_s, .ref a_o_spare, .ref a_o_kept, .ref a_o_isKept, .ref a_o_makes, .ref a_o_works, .ref a_o_order, .int o_falling])), (a_o_need, .inl (cI, 12, .inl o_need)), (a_o_made, .inl (cI, 12, .inl o_made)), (a_o_skips, .inl (cI, 12, .inl o_skips)), (a_o_tunes, .inl (cI, 3, .inl o_tunes)), (a_o_s, .inl (cI, 105, .inl o_s)), (a_o_spare, .inl (cI, 105, .inl o_spare)), (a_o_makes, .inl (cI, 6, .inl o_makes)), (a_o_works, .inl (cI, 6, .inl o_works))] := hD
        refine lv_iload_n hx hb dX5_madeBy_95 rfl (lv_at hl 1 rfl) ?_
        refine lv_icmp_ne (tgt := 125) hx hb dX5_madeBy_96 (by decide) (fun c_5 => ?_) (fun c_5 => ?_)
        · have hf := pif hf c_5
          refine lv_iconst (v := (0 : Int32)) hx hb dX5_madeBy_125 (by decide) ?_
          refine lv_ior hx hb dX5_madeBy_126 ?_
          refine lv_istore (lv' := [(4, .int (l4 ||| (0 : Int32))), (0, .ref a_o), (1, .int l1), (2, .int l2), (5, .int l5)]) hx hb dX5_madeBy_127 hl (by decide) rfl (fun ls hl => ?_)
          refine lv_iinc (v := (l5 + 1)) (lv' := [(5, .int (l5 + 1)), (4, .int (l4 ||| (0 : Int32))), (0, .ref a_o), (1, .int l1), (2, .int l2)]) hx hb dX5_madeBy_129 hl (k := 4) rfl rfl (by decide) rfl (fun ls hl => ?_)
          refine lv_goto (tgt := 69) hx hb dX5_madeBy_132 (by decide) ?_
          exact ih _ _ _ _ hf _ _ _ hP hD hS (lv_sub hl [2, 3, 4, 1, 0] rfl) kx
        · have hf := pit hf c_5
          refine lv_aload_n hx hb dX5_madeBy_99 rfl (lv_at hl 0 rfl) ?_
          refine va_get (D := (dC, dI)) (ci := 5) (v := .ref a_o_s) (C := RX5) (T := TX5) (N := 29) hx hb hts uX5_madeBy_X5 hown hK hP 0 rfl rfl 21 (by decide) (hts _ mX5_madeBy_1) (fun _ h9 => h9) rfl dX5_madeBy_100 ?_
          refine lv_bipush (v := (33 : Int32)) hx hb dX5_madeBy_103 (by decide) ?_
          refine lv_bipush (v := (6 : Int32)) hx hb dX5_madeBy_105 (by decide) ?_
          refine lv_iload hx hb dX5_madeBy_107 (lv_at hl 4 rfl) ?_
          refine lv_imul hx hb dX5_madeBy_109 ?_
          refine lv_iadd hx hb dX5_madeBy_110 ?_
          refine lv_iload_n hx hb dX5_madeBy_111 rfl (lv_at hl 1 rfl) ?_
          refine lv_iadd hx hb dX5_madeBy_112 ?_
          obtain ⟨h_6, hf⟩ := pgd hf
          refine va_iald hx hb hK hP 5 1 rfl rfl h_6 dX5_madeBy_113 ?_
          refine lv_iload_n hx hb dX5_madeBy_114 rfl (lv_at hl 2 rfl) ?_
          refine lv_icmp_ne (tgt := 125) hx hb dX5_madeBy_115 (by decide) (fun c_7 => ?_) (fun c_7 => ?_)
          · have hf := pif hf c_7
            refine lv_iconst (v := (0 : Int32)) hx hb dX5_madeBy_125 (by decide) ?_
            refine lv_ior hx hb dX5_madeBy_126 ?_
            refine lv_istore (lv' := [(4, .int (l4 ||| (0 : Int32))), (0, .ref a_o), (1, .int l1), (2, .int l2), (5, .int l5)]) hx hb dX5_madeBy_127 hl (by decide) rfl (fun ls hl => ?_)
            refine lv_iinc (v := (l5 + 1)) (lv' := [(5, .int (l5 + 1)), (4, .int (l4 ||| (0 : Int32))), (0, .ref a_o), (1, .int l1), (2, .int l2)]) hx hb dX5_madeBy_129 hl (k := 4) rfl rfl (by decide) rfl (fun ls hl => ?_)
            refine lv_goto (tgt := 69) hx hb dX5_madeBy_132 (by decide) ?_
            exact ih _ _ _ _ hf _ _ _ hP hD hS (lv_sub hl [2, 3, 4, 1, 0] rfl) kx
          · have hf := pit hf c_7
            refine lv_iconst (v := (1 : Int32)) hx hb dX5_madeBy_118 (by decide) ?_
            refine lv_iload hx hb dX5_madeBy_119 (lv_at hl 4 rfl) ?_
            refine lv_ishl hx hb dX5_madeBy_121 ?_
            refine lv_goto (tgt := 126) hx hb dX5_madeBy_122 (by decide) ?_
            refine lv_ior hx hb dX5_madeBy_126 ?_
            refine lv_istore (lv' := [(4, .int (l4 ||| ((1 : Int32) <<< (l5 &&& 31)))), (0, .ref a_o), (1, .int l1), (2, .int l2), (5, .int l5)]) hx hb dX5_madeBy_127 hl (by decide) rfl (fun ls hl => ?_)
            refine lv_iinc (v := (l5 + 1)) (lv' := [(5, .int (l5 + 1)), (4, .int (l4 ||| ((1 : Int32) <<< (l5 &&& 31)))), (0, .ref a_o), (1, .int l1), (2, .int l2)]) hx hb dX5_madeBy_129 hl (k := 4) rfl rfl (by decide) rfl (fun ls hl => ?_)
            refine lv_goto (tgt := 69) hx hb dX5_madeBy_132 (by decide) ?_
            exact ih _ _ _ _ hf _ _ _ hP hD hS (lv_sub hl [2, 3, 4, 1, 0] rfl) kx
set_option maxHeartbeats 4000000 in
set_option maxRecDepth 100000 in
theorem kX5_madeBy (l : Launch) (dC : Nat → ClassId) (dI : Nat → Nat → Nat) (Z : gZ) (cC cI cZ cW : ClassId) (a_o a_o_text a_o_need a_o_made a_o_skillTold a_o_placeTold a_o_skips a_o_wheelTold a_o_tunes a_o_s a_o_spare a_o_kept a_o_isKept a_o_makes a_o_works a_o_order : Nat) (sz : Nat) (o_thrown : Int32) (o_trace : Int64) (o_typed : Int32) (o_next : Int32) (o_token : Int32) (o_place : Int32) (o_value : Int32) (o_fault : Int32) (o_trades : Int32) (o_people : Int32) (o_draftTrades : Int32) (o_draftPeople : Int32) (o_isShut : Int32) (o_falling : Int32) (o_need : Nat → Int32) (o_made : Nat → Int32) (o_skips : Nat → Int32) (o_tunes : Nat → Int32) (o_s : Nat → Int32) (o_spare : Nat → Int32) (o_makes : Nat → Int32) (o_works : Nat → Int32) (i1 : Int32) (i2 : Int32) (i3 : Int32) (N : Nat) (r' : Int32) (o_thrown' : Int32) (o_s' : Nat → Int32) (o_spare' : Nat → Int32) (o_makes' : Nat → Int32) (o_works' : Nat → Int32) (hf : fX5_madeBy N o_thrown o_trades o_people o_need o_made o_skips o_tunes o_s o_spare o_makes o_works  i1 i2 i3 = some (r', o_thrown', o_s', o_spare', o_makes', o_works')) : Met l yX5_madeBy wsX5_madeBy rmX5_madeBy (va_Pc [.ref a_o, .int i1, .int i2, .int i3] (gB (dC, dI) Z [(cC, .char), (cI, .int), (cZ, .boolean), (cW, .object RX3)] [(a_o, .inr (5, [.int o_thrown, .long o_trace, .ref a_o_text, .int o_typed, .int o_next, .int o_token, .int o_place, .int o_value, .int o_fault, .ref a_o_need, .ref a_o_made, .ref a_o_skillTold, .ref a_o_placeTold, .ref a_o_skips, .ref a_o_wheelTold, .int o_trades, .int o_people, .int o_draftTrades, .int o_draftPeople, .int o_isShut, .ref a_o_tunes, .ref a_o_s, .ref a_o_spare, .ref a_o_kept, .ref a_o_isKept, .ref a_o_makes, .ref a_o_works, .ref a_o_order, .int o_falling])), (a_o_need, .inl (cI, 12, .inl o_need)), (a_o_made, .inl (cI, 12, .inl o_made)), (a_o_skips, .inl (cI, 12, .inl o_skips)), (a_o_tunes, .inl (cI, 3, .inl o_tunes)), (a_o_s, .inl (cI, 105, .inl o_s)), (a_o_spare, .inl (cI, 105, .inl o_spare)), (a_o_makes, .inl (cI, 6, .inl o_makes)), (a_o_works, .inl (cI, 6, .inl o_works))] sz)) (va_Qi (fun (r : Int32) (_ : Unit) => r = r') (gE (dC, dI) [(a_o, .inr (5, [.int o_thrown', .long o_trace, .ref a_o_text, .int o_typed, .int o_next, .int o_token, .int o_place, .int o_value, .int o_fault, .ref a_o_need, .ref a_o_made, .ref a_o_skillTold, .ref a_o_placeTold, .ref a_o_skips, .ref a_o_wheelTold, .int o_trades, .int o_people, .int o_draftTrades, .int o_draftPeople, .int o_isShut, .ref a_o_tunes, .ref a_o_s, .ref a_o_spare, .ref a_o_kept, .ref a_o_isKept, .ref a_o_makes, .ref a_o_works, .ref a_o_order, .int o_falling])), (a_o_need, .inl (cI, 12, .inl o_need)), (a_o_made, .inl (cI, 12, .inl o_made)), (a_o_skips, .inl (cI, 12, .inl o_skips)), (a_o_tunes, .inl (cI, 3, .inl o_tunes)), (a_o_s, .inl (cI, 105, .inl o_s')), (a_o_spare, .inl (cI, 105, .inl o_spare')), (a_o_makes, .inl (cI, 6, .inl o_makes')), (a_o_works, .inl (cI, 6, .inl o_works'))]) (va_A [(a_o, .inr (5, [.int o_thrown, .long o_trace, .ref a_o_text, .int o_typed, .int o_next, .int o_token, .int o_place, .int o_value, .int o_fault, .ref a_o_need, .ref a_o_made, .ref a_o_skillTold, .ref a_o_placeTold, .ref a_o_skips, .ref a_o_wheelTold, .int o_trades, .int o_people, .int o_draftTrades, .int o_draftPeople, .int o_isShut, .ref a_o_tunes, .ref a_o_s, .ref a_o_spare, .ref a_o_kept, .ref a_o_isKept, .ref a_o_makes, .ref a_o_works, .ref a_o_order, .int o_falling])), (a_o_need, .inl (cI, 12, .inl o_need)), (a_o_made, .inl (cI, 12, .inl o_made)), (a_o_skips, .inl (cI, 12, .inl o_skips)), (a_o_tunes, .inl (cI, 3, .inl o_tunes)), (a_o_s, .inl (cI, 105, .inl o_s)), (a_o_spare, .inl (cI, 105, .inl o_spare)), (a_o_makes, .inl (cI, 6, .inl o_makes)), (a_o_works, .inl (cI, 6, .inl o_works))] sz)) 0 0 (va_A [(a_o, .inr (5, [.int o_thrown, .long o_trace, .ref a_o_text, .int o_typed, .int o_next, .int o_token, .int o_place, .int o_value, .int o_fault, .ref a_o_need, .ref a_o_made, .ref a_o_skillTold, .ref a_o_placeTold, .ref a_o_skips, .ref a_o_wheelTold, .int o_trades, .int o_people, .int o_draftTrades, .int o_draftPeople, .int o_isShut, .ref a_o_tunes, .ref a_o_s, .ref a_o_spare, .ref a_o_kept, .ref a_o_isKept, .ref a_o_makes, .ref a_o_works, .ref a_o_order, .int o_falling])), (a_o_need, .inl (cI, 12, .inl o_need)), (a_o_made, .inl (cI, 12, .inl o_made)), (a_o_skips, .inl (cI, 12, .inl o_skips)), (a_o_tunes, .inl (cI, 3, .inl o_tunes)), (a_o_s, .inl (cI, 105, .inl o_s)), (a_o_spare, .inl (cI, 105, .inl o_spare)), (a_o_makes, .inl (cI, 6, .inl o_makes)), (a_o_works, .inl (cI, 6, .inl o_works))] sz) := by
  refine gMet (cc := cX5_madeBy) (maxL := 6) (ret := (some .int)) (Qc := fun A => va_Qi (fun (r : Int32) (_ : Unit) => r = r') (gE (dC, dI) [(a_o, .inr (5, [.int o_thrown', .long o_trace, .ref a_o_text, .int o_typed, .int o_next, .int o_token, .int o_place, .int o_value, .int o_fault, .ref a_o_need, .ref a_o_made, .ref a_o_skillTold, .ref a_o_placeTold, .ref a_o_skips, .ref a_o_wheelTold, .int o_trades, .int o_people, .int o_draftTrades, .int o_draftPeople, .int o_isShut, .ref a_o_tunes, .ref a_o_s, .ref a_o_spare, .ref a_o_kept, .ref a_o_isKept, .ref a_o_makes, .ref a_o_works, .ref a_o_order, .int o_falling])), (a_o_need, .inl (cI, 12, .inl o_need)), (a_o_made, .inl (cI, 12, .inl o_made)), (a_o_skips, .inl (cI, 12, .inl o_skips)), (a_o_tunes, .inl (cI, 3, .inl o_tunes)), (a_o_s, .inl (cI, 105, .inl o_s')), (a_o_spare, .inl (cI, 105, .inl o_spare')), (a_o_makes, .inl (cI, 6, .inl o_makes')), (a_o_works, .inl (cI, 6, .inl o_works'))]) A) (by decide) rfl (Nat.le_of_ble_eq_true rfl) ?_
  intro p e s m below meth c A ls hg0 _ hsz hP hD hS hl
  have hg0 : gX p s m _ meth c cX5_madeBy 6 (some .int) wsX5_madeBy RX5 (dC, dI) Z [(cC, .char), (cI, .int), (cZ, .boolean), (cW, .object RX3)] A := hg0
  obtain ⟨hx, hb, hr, hml, hown, hts, hlocks, hA, hK, hN⟩ := id hg0
  subst hsz
  have hF : CallFix p m c cX5_madeBy 6 s _ wsX5_madeBy RX5 := ⟨hx, hb, hml, hown, hts⟩
  have hl : lv_has ls 6 [(0, .ref a_o), (1, .int i1), (2, .int i2), (3, .int i3)] := hl
  unfold fX5_madeBy at hf
  refine lv_aload_n hx hb dX5_madeBy_0 rfl (lv_at hl 0 rfl) ?_
  refine lv_iconst (v := (0 : Int32)) hx hb dX5_madeBy_1 (by decide) ?_
  refine va_put (D := (dC, dI)) (ci := 5) (v := .int (0 : Int32)) (ty := .int) (C := RX5) (T := TX5) (N := 29) hx hb hts uX5_madeBy_X5 tyX5 tyX5_ok nmX5 hown hK hP hD hS 0 rfl rfl 0 (by decide) (hts _ mX5_madeBy_0) (fun _ h9 => h9) rfl (by decide +kernel) rfl rfl (Nat.le_of_ble_eq_true rfl) dX5_madeBy_2 (fun H locs hP hD hS => ?_)
  have hP : va_P (dC, dI) vwCl [(a_o, .inr (5, [.int (0 : Int32), .long o_trace, .ref a_o_text, .int o_typed, .int o_next, .int o_token, .int o_place, .int o_value, .int o_fault, .ref a_o_need, .ref a_o_made, .ref a_o_skillTold, .ref a_o_placeTold, .ref a_o_skips, .ref a_o_wheelTold, .int o_trades, .int o_people, .int o_draftTrades, .int o_draftPeople, .int o_isShut, .ref a_o_tunes, .ref a_o_s, .ref a_o_spare, .ref a_o_kept, .ref a_o_isKept, .ref a_o_makes, .ref a_o_works, .ref a_o_order, .int o_falling])), (a_o_need, .inl (cI, 12, .inl o_need)), (a_o_made, .inl (cI, 12, .inl o_made)), (a_o_skips, .inl (cI, 12, .inl o_skips)), (a_o_tunes, .inl (cI, 3, .inl o_tunes)), (a_o_s, .inl (cI, 105, .inl o_s)), (a_o_spare, .inl (cI, 105, .inl o_spare)), (a_o_makes, .inl (cI, 6, .inl o_makes)), (a_o_works, .inl (cI, 6, .inl o_works))] H := hP
  have hD : va_D A [(a_o, .inr (5, [.int (0 : Int32), .long o_trace, .ref a_o_text, .int o_typed, .int o_next, .int o_token, .int o_place, .int o_value, .int o_fault, .ref a_o_need, .ref a_o_made, .ref a_o_skillTold, .ref a_o_placeTold, .ref a_o_skips, .ref a_o_wheelTold, .int o_trades, .int o_people, .int o_draftTrades, .int o_draftPeople, .int o_isShut, .ref a_o_tunes, .ref a_o_s, .ref a_o_spare, .ref a_o_kept, .ref a_o_isKept, .ref a_o_makes, .ref a_o_works, .ref a_o_order, .int o_falling])), (a_o_need, .inl (cI, 12, .inl o_need)), (a_o_made, .inl (cI, 12, .inl o_made)), (a_o_skips, .inl (cI, 12, .inl o_skips)), (a_o_tunes, .inl (cI, 3, .inl o_tunes)), (a_o_s, .inl (cI, 105, .inl o_s)), (a_o_spare, .inl (cI, 105, .inl o_spare)), (a_o_makes, .inl (cI, 6, .inl o_makes)), (a_o_works, .inl (cI, 6, .inl o_works))] := hD
  refine lv_aload_n hx hb dX5_madeBy_5 rfl (lv_at hl 0 rfl) ?_
  refine lv_iload_n hx hb dX5_madeBy_6 rfl (lv_at hl 1 rfl) ?_
  obtain ⟨r_1, hc, hf⟩ := pb1 hf
  refine gCi (va_runV (As := [.int i1]) (rest := []) hF (kX5_isTrade l dC dI Z cC cI cZ cW a_o a_o_text a_o_need a_o_made a_o_skillTold a_o_placeTold a_o_skips a_o_wheelTold a_o_tunes a_o_s a_o_spare a_o_kept a_o_isKept a_o_makes a_o_works a_o_order _ (0 : Int32) o_trace o_typed o_next o_token o_place o_value o_fault o_trades o_people o_draftTrades o_draftPeople o_isShut o_falling i1 N r_1 hc) (cwV 1 hts gX5_madeBy_X5_isTrade rfl rfl rfl (by decide +kernel) ⟨Nat.le_of_ble_eq_true rfl, Nat.le_of_ble_eq_true rfl⟩) (gPV (wc := [(a_o, .inr (5, [.int (0 : Int32), .long o_trace, .ref a_o_text, .int o_typed, .int o_next, .int o_token, .int o_place, .int o_value, .int o_fault, .ref a_o_need, .ref a_o_made, .ref a_o_skillTold, .ref a_o_placeTold, .ref a_o_skips, .ref a_o_wheelTold, .int o_trades, .int o_people, .int o_draftTrades, .int o_draftPeople, .int o_isShut, .ref a_o_tunes, .ref a_o_s, .ref a_o_spare, .ref a_o_kept, .ref a_o_isKept, .ref a_o_makes, .ref a_o_works, .ref a_o_order, .int o_falling]))]) hK hN hA hS hP hD [0] rfl rfl (q0 := 0) (ci := 5) rfl rfl rfl) rfl rfl hl.1 rfl (lv_room (Nat.le_of_ble_eq_true rfl)) dX5_madeBy_7 ⟨Nat.zero_le _, Nat.zero_le _⟩) hP hD hS hA [0] rfl rfl rfl (fun H locs hP hD hS => ?_)
  have hP : va_P (dC, dI) vwCl [(a_o, .inr (5, [.int (0 : Int32), .long o_trace, .ref a_o_text, .int o_typed, .int o_next, .int o_token, .int o_place, .int o_value, .int o_fault, .ref a_o_need, .ref a_o_made, .ref a_o_skillTold, .ref a_o_placeTold, .ref a_o_skips, .ref a_o_wheelTold, .int o_trades, .int o_people, .int o_draftTrades, .int o_draftPeople, .int o_isShut, .ref a_o_tunes, .ref a_o_s, .ref a_o_spare, .ref a_o_kept, .ref a_o_isKept, .ref a_o_makes, .ref a_o_works, .ref a_o_order, .int o_falling])), (a_o_need, .inl (cI, 12, .inl o_need)), (a_o_made, .inl (cI, 12, .inl o_made)), (a_o_skips, .inl (cI, 12, .inl o_skips)), (a_o_tunes, .inl (cI, 3, .inl o_tunes)), (a_o_s, .inl (cI, 105, .inl o_s)), (a_o_spare, .inl (cI, 105, .inl o_spare)), (a_o_makes, .inl (cI, 6, .inl o_makes)), (a_o_works, .inl (cI, 6, .inl o_works))] H := hP
  have hD : va_D A [(a_o, .inr (5, [.int (0 : Int32), .long o_trace, .ref a_o_text, .int o_typed, .int o_next, .int o_token, .int o_place, .int o_value, .int o_fault, .ref a_o_need, .ref a_o_made, .ref a_o_skillTold, .ref a_o_placeTold, .ref a_o_skips, .ref a_o_wheelTold, .int o_trades, .int o_people, .int o_draftTrades, .int o_draftPeople, .int o_isShut, .ref a_o_tunes, .ref a_o_s, .ref a_o_spare, .ref a_o_kept, .ref a_o_isKept, .ref a_o_makes, .ref a_o_works, .ref a_o_order, .int o_falling])), (a_o_need, .inl (cI, 12, .inl o_need)), (a_o_made, .inl (cI, 12, .inl o_made)), (a_o_skips, .inl (cI, 12, .inl o_skips)), (a_o_tunes, .inl (cI, 3, .inl o_tunes)), (a_o_s, .inl (cI, 105, .inl o_s)), (a_o_spare, .inl (cI, 105, .inl o_spare)), (a_o_makes, .inl (cI, 6, .inl o_makes)), (a_o_works, .inl (cI, 6, .inl o_works))] := hD
  refine lv_if_eq (tgt := 38) hx hb dX5_madeBy_10 (by decide) (fun c_2 => ?_) (fun c_2 => ?_)
  · have hf := pit hf c_2
    refine lv_iconst (v := (-1 : Int32)) hx hb dX5_madeBy_38 (by decide) ?_
    have q0 := Option.some.inj hf
    obtain ⟨e0, q1⟩ := Prod.mk.inj q0
    obtain ⟨e1, q2⟩ := Prod.mk.inj q1
    obtain ⟨e2, q3⟩ := Prod.mk.inj q2
    obtain ⟨e3, q4⟩ := Prod.mk.inj q3
    obtain ⟨e4, q5⟩ := Prod.mk.inj q4
    subst e0
    subst e1
    subst e2
    subst e3
    subst e4
    subst q5
    exact gRi hx hb hr hlocks hP hS dX5_madeBy_39
  · have hf := pif hf c_2
    refine lv_iload_n hx hb dX5_madeBy_13 rfl (lv_at hl 2 rfl) ?_
    refine lv_iconst (v := (0 : Int32)) hx hb dX5_madeBy_14 (by decide) ?_
    refine lv_bipush (v := (9 : Int32)) hx hb dX5_madeBy_15 (by decide) ?_
    obtain ⟨r_3, hc, hf⟩ := pb1 hf
    refine gCi (va_runS (As := [.int i2, .int (0 : Int32), .int (9 : Int32)]) (rest := []) hF (kX5_in l dC dI Z cC cI cZ cW  _  i2 (0 : Int32) (9 : Int32) N r_3 hc) (cwS 3 hts gX5_madeBy_X5_in rfl rfl rfl (by decide +kernel) ⟨Nat.le_of_ble_eq_true rfl, Nat.le_of_ble_eq_true rfl⟩) (gPS (wc := []) hK hN hA hS hP hD [] rfl rfl) rfl rfl hl.1 rfl (lv_room (Nat.le_of_ble_eq_true rfl)) dX5_madeBy_17 ⟨Nat.zero_le _, Nat.zero_le _⟩) hP hD hS hA [] rfl rfl rfl (fun H locs hP hD hS => ?_)
    have hP : va_P (dC, dI) vwCl [(a_o, .inr (5, [.int (0 : Int32), .long o_trace, .ref a_o_text, .int o_typed, .int o_next, .int o_token, .int o_place, .int o_value, .int o_fault, .ref a_o_need, .ref a_o_made, .ref a_o_skillTold, .ref a_o_placeTold, .ref a_o_skips, .ref a_o_wheelTold, .int o_trades, .int o_people, .int o_draftTrades, .int o_draftPeople, .int o_isShut, .ref a_o_tunes, .ref a_o_s, .ref a_o_spare, .ref a_o_kept, .ref a_o_isKept, .ref a_o_makes, .ref a_o_works, .ref a_o_order, .int o_falling])), (a_o_need, .inl (cI, 12, .inl o_need)), (a_o_made, .inl (cI, 12, .inl o_made)), (a_o_skips, .inl (cI, 12, .inl o_skips)), (a_o_tunes, .inl (cI, 3, .inl o_tunes)), (a_o_s, .inl (cI, 105, .inl o_s)), (a_o_spare, .inl (cI, 105, .inl o_spare)), (a_o_makes, .inl (cI, 6, .inl o_makes)), (a_o_works, .inl (cI, 6, .inl o_works))] H := hP
    have hD : va_D A [(a_o, .inr (5, [.int (0 : Int32), .long o_trace, .ref a_o_text, .int o_typed, .int o_next, .int o_token, .int o_place, .int o_value, .int o_fault, .ref a_o_need, .ref a_o_made, .ref a_o_skillTold, .ref a_o_placeTold, .ref a_o_skips, .ref a_o_wheelTold, .int o_trades, .int o_people, .int o_draftTrades, .int o_draftPeople, .int o_isShut, .ref a_o_tunes, .ref a_o_s, .ref a_o_spare, .ref a_o_kept, .ref a_o_isKept, .ref a_o_makes, .ref a_o_works, .ref a_o_order, .int o_falling])), (a_o_need, .inl (cI, 12, .inl o_need)), (a_o_made, .inl (cI, 12, .inl o_made)), (a_o_skips, .inl (cI, 12, .inl o_skips)), (a_o_tunes, .inl (cI, 3, .inl o_tunes)), (a_o_s, .inl (cI, 105, .inl o_s)), (a_o_spare, .inl (cI, 105, .inl o_spare)), (a_o_makes, .inl (cI, 6, .inl o_makes)), (a_o_works, .inl (cI, 6, .inl o_works))] := hD
    refine lv_if_eq (tgt := 38) hx hb dX5_madeBy_20 (by decide) (fun c_4 => ?_) (fun c_4 => ?_)
    · have hf := pit hf c_4
      refine lv_iconst (v := (-1 : Int32)) hx hb dX5_madeBy_38 (by decide) ?_
      have q0 := Option.some.inj hf
      obtain ⟨e0, q1⟩ := Prod.mk.inj q0
      obtain ⟨e1, q2⟩ := Prod.mk.inj q1
      obtain ⟨e2, q3⟩ := Prod.mk.inj q2
      obtain ⟨e3, q4⟩ := Prod.mk.inj q3
      obtain ⟨e4, q5⟩ := Prod.mk.inj q4
      subst e0
      subst e1
      subst e2
      subst e3
      subst e4
      subst q5
      exact gRi hx hb hr hlocks hP hS dX5_madeBy_39
    · have hf := pif hf c_4
      refine lv_iload_n hx hb dX5_madeBy_23 rfl (lv_at hl 3 rfl) ?_
      refine lv_aload_n hx hb dX5_madeBy_24 rfl (lv_at hl 0 rfl) ?_
      refine va_get (D := (dC, dI)) (ci := 5) (v := .ref a_o_s) (C := RX5) (T := TX5) (N := 29) hx hb hts uX5_madeBy_X5 hown hK hP 0 rfl rfl 21 (by decide) (hts _ mX5_madeBy_1) (fun _ h9 => h9) rfl dX5_madeBy_25 ?_
      refine lv_iconst (v := (0 : Int32)) hx hb dX5_madeBy_28 (by decide) ?_
      obtain ⟨h_5, hf⟩ := pgd hf
      refine va_iald hx hb hK hP 5 1 rfl rfl h_5 dX5_madeBy_29 ?_
      refine lv_bipush (v := (99 : Int32)) hx hb dX5_madeBy_30 (by decide) ?_
      obtain ⟨r_6, hc, hf⟩ := pb1 hf
      refine gCi (va_runS (As := [.int i3, .int (o_s (0 : Int32).toNatClampNeg), .int (99 : Int32)]) (rest := []) hF (kX5_in l dC dI Z cC cI cZ cW  _  i3 (o_s (0 : Int32).toNatClampNeg) (99 : Int32) N r_6 hc) (cwS 3 hts gX5_madeBy_X5_in rfl rfl rfl (by decide +kernel) ⟨Nat.le_of_ble_eq_true rfl, Nat.le_of_ble_eq_true rfl⟩) (gPS (wc := []) hK hN hA hS hP hD [] rfl rfl) rfl rfl hl.1 rfl (lv_room (Nat.le_of_ble_eq_true rfl)) dX5_madeBy_32 ⟨Nat.zero_le _, Nat.zero_le _⟩) hP hD hS hA [] rfl rfl rfl (fun H locs hP hD hS => ?_)
      have hP : va_P (dC, dI) vwCl [(a_o, .inr (5, [.int (0 : Int32), .long o_trace, .ref a_o_text, .int o_typed, .int o_next, .int o_token, .int o_place, .int o_value, .int o_fault, .ref a_o_need, .ref a_o_made, .ref a_o_skillTold, .ref a_o_placeTold, .ref a_o_skips, .ref a_o_wheelTold, .int o_trades, .int o_people, .int o_draftTrades, .int o_draftPeople, .int o_isShut, .ref a_o_tunes, .ref a_o_s, .ref a_o_spare, .ref a_o_kept, .ref a_o_isKept, .ref a_o_makes, .ref a_o_works, .ref a_o_order, .int o_falling])), (a_o_need, .inl (cI, 12, .inl o_need)), (a_o_made, .inl (cI, 12, .inl o_made)), (a_o_skips, .inl (cI, 12, .inl o_skips)), (a_o_tunes, .inl (cI, 3, .inl o_tunes)), (a_o_s, .inl (cI, 105, .inl o_s)), (a_o_spare, .inl (cI, 105, .inl o_spare)), (a_o_makes, .inl (cI, 6, .inl o_makes)), (a_o_works, .inl (cI, 6, .inl o_works))] H := hP
      have hD : va_D A [(a_o, .inr (5, [.int (0 : Int32), .long o_trace, .ref a_o_text, .int o_typed, .int o_next, .int o_token, .int o_place, .int o_value, .int o_fault, .ref a_o_need, .ref a_o_made, .ref a_o_skillTold, .ref a_o_placeTold, .ref a_o_skips, .ref a_o_wheelTold, .int o_trades, .int o_people, .int o_draftTrades, .int o_draftPeople, .int o_isShut, .ref a_o_tunes, .ref a_o_s, .ref a_o_spare, .ref a_o_kept, .ref a_o_isKept, .ref a_o_makes, .ref a_o_works, .ref a_o_order, .int o_falling])), (a_o_need, .inl (cI, 12, .inl o_need)), (a_o_made, .inl (cI, 12, .inl o_made)), (a_o_skips, .inl (cI, 12, .inl o_skips)), (a_o_tunes, .inl (cI, 3, .inl o_tunes)), (a_o_s, .inl (cI, 105, .inl o_s)), (a_o_spare, .inl (cI, 105, .inl o_spare)), (a_o_makes, .inl (cI, 6, .inl o_makes)), (a_o_works, .inl (cI, 6, .inl o_works))] := hD
      refine lv_if_ne (tgt := 40) hx hb dX5_madeBy_35 (by decide) (fun c_7 => ?_) (fun c_7 => ?_)
      · have hf := pif hf c_7
        refine lv_aload_n hx hb dX5_madeBy_40 rfl (lv_at hl 0 rfl) ?_
        refine lv_iconst (v := (1 : Int32)) hx hb dX5_madeBy_41 (by decide) ?_
        obtain ⟨o_s_8, o_spare_9, hc, hf⟩ := pb2 hf
        refine gCv (va_runV (As := [.int (1 : Int32)]) (rest := []) hF (kX5_aside l dC dI Z cC cI cZ cW a_o a_o_text a_o_need a_o_made a_o_skillTold a_o_placeTold a_o_skips a_o_wheelTold a_o_tunes a_o_s a_o_spare a_o_kept a_o_isKept a_o_makes a_o_works a_o_order _ (0 : Int32) o_trace o_typed o_next o_token o_place o_value o_fault o_trades o_people o_draftTrades o_draftPeople o_isShut o_falling o_s o_spare (1 : Int32) N o_s_8 o_spare_9 hc) (cwV 1 hts gX5_madeBy_X5_aside rfl rfl rfl (by decide +kernel) ⟨Nat.le_of_ble_eq_true rfl, Nat.le_of_ble_eq_true rfl⟩) (gPV (wc := [(a_o, .inr (5, [.int (0 : Int32), .long o_trace, .ref a_o_text, .int o_typed, .int o_next, .int o_token, .int o_place, .int o_value, .int o_fault, .ref a_o_need, .ref a_o_made, .ref a_o_skillTold, .ref a_o_placeTold, .ref a_o_skips, .ref a_o_wheelTold, .int o_trades, .int o_people, .int o_draftTrades, .int o_draftPeople, .int o_isShut, .ref a_o_tunes, .ref a_o_s, .ref a_o_spare, .ref a_o_kept, .ref a_o_isKept, .ref a_o_makes, .ref a_o_works, .ref a_o_order, .int o_falling])), (a_o_s, .inl (cI, 105, .inl o_s)), (a_o_spare, .inl (cI, 105, .inl o_spare))]) hK hN hA hS hP hD [0, 5, 6] rfl rfl (q0 := 0) (ci := 5) rfl rfl rfl) rfl rfl hl.1 rfl (lv_room (Nat.le_of_ble_eq_true rfl)) dX5_madeBy_42 ⟨Nat.zero_le _, Nat.zero_le _⟩) hP hD hS hA [0, 5, 6] rfl rfl rfl (fun H locs hP hD hS => ?_)
        have hP : va_P (dC, dI) vwCl [(a_o, .inr (5, [.int (0 : Int32), .long o_trace, .ref a_o_text, .int o_typed, .int o_next, .int o_token, .int o_place, .int o_value, .int o_fault, .ref a_o_need, .ref a_o_made, .ref a_o_skillTold, .ref a_o_placeTold, .ref a_o_skips, .ref a_o_wheelTold, .int o_trades, .int o_people, .int o_draftTrades, .int o_draftPeople, .int o_isShut, .ref a_o_tunes, .ref a_o_s, .ref a_o_spare, .ref a_o_kept, .ref a_o_isKept, .ref a_o_makes, .ref a_o_works, .ref a_o_order, .int o_falling])), (a_o_need, .inl (cI, 12, .inl o_need)), (a_o_made, .inl (cI, 12, .inl o_made)), (a_o_skips, .inl (cI, 12, .inl o_skips)), (a_o_tunes, .inl (cI, 3, .inl o_tunes)), (a_o_s, .inl (cI, 105, .inl o_s_8)), (a_o_spare, .inl (cI, 105, .inl o_spare_9)), (a_o_makes, .inl (cI, 6, .inl o_makes)), (a_o_works, .inl (cI, 6, .inl o_works))] H := hP
        have hD : va_D A [(a_o, .inr (5, [.int (0 : Int32), .long o_trace, .ref a_o_text, .int o_typed, .int o_next, .int o_token, .int o_place, .int o_value, .int o_fault, .ref a_o_need, .ref a_o_made, .ref a_o_skillTold, .ref a_o_placeTold, .ref a_o_skips, .ref a_o_wheelTold, .int o_trades, .int o_people, .int o_draftTrades, .int o_draftPeople, .int o_isShut, .ref a_o_tunes, .ref a_o_s, .ref a_o_spare, .ref a_o_kept, .ref a_o_isKept, .ref a_o_makes, .ref a_o_works, .ref a_o_order, .int o_falling])), (a_o_need, .inl (cI, 12, .inl o_need)), (a_o_made, .inl (cI, 12, .inl o_made)), (a_o_skips, .inl (cI, 12, .inl o_skips)), (a_o_tunes, .inl (cI, 3, .inl o_tunes)), (a_o_s, .inl (cI, 105, .inl o_s_8)), (a_o_spare, .inl (cI, 105, .inl o_spare_9)), (a_o_makes, .inl (cI, 6, .inl o_makes)), (a_o_works, .inl (cI, 6, .inl o_works))] := hD
        obtain ⟨o_s_10, o_makes_11, o_works_12, hc, hf⟩ := pb3 hf
        refine wX5_madeBy_45 hg0 a_o a_o_text a_o_need a_o_made a_o_skillTold a_o_placeTold a_o_skips a_o_wheelTold a_o_tunes a_o_s a_o_spare a_o_kept a_o_isKept a_o_makes a_o_works a_o_order (0 : Int32) o_trace o_typed o_next o_token o_place o_value o_fault o_trades o_people o_draftTrades o_draftPeople o_isShut o_falling o_need o_made o_skips o_tunes o_spare_9 i1 i2 i3 N N o_s_8 o_makes o_works o_s_10 o_makes_11 o_works_12 hc _ _ _ hP hD hS (lv_sub hl [0, 1, 2, 3] rfl) (fun H locs ls hP hD hS hl => ?_)
        refine lv_iconst (v := (0 : Int32)) hx hb dX5_madeBy_63 (by decide) ?_
        refine lv_istore (lv' := [(4, .int (0 : Int32)), (0, .ref a_o), (1, .int i1), (2, .int i2)]) hx hb dX5_madeBy_64 hl (by decide) rfl (fun ls hl => ?_)
        refine lv_iconst (v := (0 : Int32)) hx hb dX5_madeBy_66 (by decide) ?_
        refine lv_istore (lv' := [(5, .int (0 : Int32)), (4, .int (0 : Int32)), (0, .ref a_o), (1, .int i1), (2, .int i2)]) hx hb dX5_madeBy_67 hl (by decide) rfl (fun ls hl => ?_)
        obtain ⟨l4_13, l5_14, hc, hf⟩ := pb2 hf
        refine wX5_madeBy_69 hg0 a_o a_o_text a_o_need a_o_made a_o_skillTold a_o_placeTold a_o_skips a_o_wheelTold a_o_tunes a_o_s a_o_spare a_o_kept a_o_isKept a_o_makes a_o_works a_o_order (0 : Int32) o_trace o_typed o_next o_token o_place o_value o_fault o_trades o_people o_draftTrades o_draftPeople o_isShut o_falling o_need o_made o_skips o_tunes o_s_10 o_spare_9 o_makes_11 o_works_12 i1 i2 N N (0 : Int32) (0 : Int32) l4_13 l5_14 hc _ _ _ hP hD hS (lv_sub hl [2, 3, 4, 1, 0] rfl) (fun H locs ls hP hD hS hl => ?_)
        refine lv_aload_n hx hb dX5_madeBy_135 rfl (lv_at hl 0 rfl) ?_
        refine lv_iconst (v := (0 : Int32)) hx hb dX5_madeBy_136 (by decide) ?_
        obtain ⟨o_s_15, o_spare_16, hc, hf⟩ := pb2 hf
        refine gCv (va_runV (As := [.int (0 : Int32)]) (rest := []) hF (kX5_aside l dC dI Z cC cI cZ cW a_o a_o_text a_o_need a_o_made a_o_skillTold a_o_placeTold a_o_skips a_o_wheelTold a_o_tunes a_o_s a_o_spare a_o_kept a_o_isKept a_o_makes a_o_works a_o_order _ (0 : Int32) o_trace o_typed o_next o_token o_place o_value o_fault o_trades o_people o_draftTrades o_draftPeople o_isShut o_falling o_s_10 o_spare_9 (0 : Int32) N o_s_15 o_spare_16 hc) (cwV 1 hts gX5_madeBy_X5_aside rfl rfl rfl (by decide +kernel) ⟨Nat.le_of_ble_eq_true rfl, Nat.le_of_ble_eq_true rfl⟩) (gPV (wc := [(a_o, .inr (5, [.int (0 : Int32), .long o_trace, .ref a_o_text, .int o_typed, .int o_next, .int o_token, .int o_place, .int o_value, .int o_fault, .ref a_o_need, .ref a_o_made, .ref a_o_skillTold, .ref a_o_placeTold, .ref a_o_skips, .ref a_o_wheelTold, .int o_trades, .int o_people, .int o_draftTrades, .int o_draftPeople, .int o_isShut, .ref a_o_tunes, .ref a_o_s, .ref a_o_spare, .ref a_o_kept, .ref a_o_isKept, .ref a_o_makes, .ref a_o_works, .ref a_o_order, .int o_falling])), (a_o_s, .inl (cI, 105, .inl o_s_10)), (a_o_spare, .inl (cI, 105, .inl o_spare_9))]) hK hN hA hS hP hD [0, 5, 6] rfl rfl (q0 := 0) (ci := 5) rfl rfl rfl) rfl rfl hl.1 rfl (lv_room (Nat.le_of_ble_eq_true rfl)) dX5_madeBy_137 ⟨Nat.zero_le _, Nat.zero_le _⟩) hP hD hS hA [0, 5, 6] rfl rfl rfl (fun H locs hP hD hS => ?_)
        have hP : va_P (dC, dI) vwCl [(a_o, .inr (5, [.int (0 : Int32), .long o_trace, .ref a_o_text, .int o_typed, .int o_next, .int o_token, .int o_place, .int o_value, .int o_fault, .ref a_o_need, .ref a_o_made, .ref a_o_skillTold, .ref a_o_placeTold, .ref a_o_skips, .ref a_o_wheelTold, .int o_trades, .int o_people, .int o_draftTrades, .int o_draftPeople, .int o_isShut, .ref a_o_tunes, .ref a_o_s, .ref a_o_spare, .ref a_o_kept, .ref a_o_isKept, .ref a_o_makes, .ref a_o_works, .ref a_o_order, .int o_falling])), (a_o_need, .inl (cI, 12, .inl o_need)), (a_o_made, .inl (cI, 12, .inl o_made)), (a_o_skips, .inl (cI, 12, .inl o_skips)), (a_o_tunes, .inl (cI, 3, .inl o_tunes)), (a_o_s, .inl (cI, 105, .inl o_s_15)), (a_o_spare, .inl (cI, 105, .inl o_spare_16)), (a_o_makes, .inl (cI, 6, .inl o_makes_11)), (a_o_works, .inl (cI, 6, .inl o_works_12))] H := hP
        have hD : va_D A [(a_o, .inr (5, [.int (0 : Int32), .long o_trace, .ref a_o_text, .int o_typed, .int o_next, .int o_token, .int o_place, .int o_value, .int o_fault, .ref a_o_need, .ref a_o_made, .ref a_o_skillTold, .ref a_o_placeTold, .ref a_o_skips, .ref a_o_wheelTold, .int o_trades, .int o_people, .int o_draftTrades, .int o_draftPeople, .int o_isShut, .ref a_o_tunes, .ref a_o_s, .ref a_o_spare, .ref a_o_kept, .ref a_o_isKept, .ref a_o_makes, .ref a_o_works, .ref a_o_order, .int o_falling])), (a_o_need, .inl (cI, 12, .inl o_need)), (a_o_made, .inl (cI, 12, .inl o_made)), (a_o_skips, .inl (cI, 12, .inl o_skips)), (a_o_tunes, .inl (cI, 3, .inl o_tunes)), (a_o_s, .inl (cI, 105, .inl o_s_15)), (a_o_spare, .inl (cI, 105, .inl o_spare_16)), (a_o_makes, .inl (cI, 6, .inl o_makes_11)), (a_o_works, .inl (cI, 6, .inl o_works_12))] := hD
        refine lv_iload hx hb dX5_madeBy_140 (lv_at hl 1 rfl) ?_
        have q0 := Option.some.inj hf
        obtain ⟨e0, q1⟩ := Prod.mk.inj q0
        obtain ⟨e1, q2⟩ := Prod.mk.inj q1
        obtain ⟨e2, q3⟩ := Prod.mk.inj q2
        obtain ⟨e3, q4⟩ := Prod.mk.inj q3
        obtain ⟨e4, q5⟩ := Prod.mk.inj q4
        subst e0
        subst e1
        subst e2
        subst e3
        subst e4
        subst q5
        exact gRi hx hb hr hlocks hP hS dX5_madeBy_142
      · have hf := pit hf c_7
        refine lv_iconst (v := (-1 : Int32)) hx hb dX5_madeBy_38 (by decide) ?_
        have q0 := Option.some.inj hf
        obtain ⟨e0, q1⟩ := Prod.mk.inj q0
        obtain ⟨e1, q2⟩ := Prod.mk.inj q1
        obtain ⟨e2, q3⟩ := Prod.mk.inj q2
        obtain ⟨e3, q4⟩ := Prod.mk.inj q3
        obtain ⟨e4, q5⟩ := Prod.mk.inj q4
        subst e0
        subst e1
        subst e2
        subst e3
        subst e4
        subst q5
        exact gRi hx hb hr hlocks hP hS dX5_madeBy_39
abbrev rmX5_again : Room := { frames := 2, cells := 0, slots := 0, locals := 45 }
set_option maxRecDepth 20000 in
theorem uX5_again_X5 : ∀ w ∈ wsX50, w ∈ wsX5_again := by decide +kernel
set_option maxRecDepth 20000 in
theorem mX5_again_0 : (Cond.fieldLink RX5 59 "TradeWheelModel" "thrown" "I" : Cond) ∈ wsX5_again := by decide +kernel
set_option maxRecDepth 20000 in
theorem mX5_again_1 : (Cond.fieldLink RX5 137 "TradeWheelModel" "trades" "I" : Cond) ∈ wsX5_again := by decide +kernel
set_option maxRecDepth 20000 in
theorem mX5_again_2 : (Cond.fieldLink RX5 140 "TradeWheelModel" "people" "I" : Cond) ∈ wsX5_again := by decide +kernel
set_option maxRecDepth 20000 in
theorem mX5_again_3 : (Cond.fieldLink RX5 50 "TradeWheelModel" "works" "[I" : Cond) ∈ wsX5_again := by decide +kernel
set_option maxRecDepth 20000 in
theorem mX5_again_4 : (Cond.fieldLink RX5 34 "TradeWheelModel" "s" "[I" : Cond) ∈ wsX5_again := by decide +kernel
set_option maxHeartbeats 4000000 in
set_option maxRecDepth 100000 in
theorem wX5_again_22 {p : Program} {l : Launch} {e : Env} {s : State} {m : MethodId} {args : Array Value} {below : List Frame} {meth : Method} {c : Code} {Q : State → Prop} {A : Nat → Prop} {dC : Nat → ClassId} {dI : Nat → Nat → Nat} {Z : gZ} {cC cI cZ cW : ClassId} (hg0 : gX p s m args meth c cX5_again 6 (some .int) wsX5_again RX5 (dC, dI) Z [(cC, .char), (cI, .int), (cZ, .boolean), (cW, .object RX3)] A) (a_o a_o_text a_o_need a_o_made a_o_skillTold a_o_placeTold a_o_skips a_o_wheelTold a_o_tunes a_o_s a_o_spare a_o_kept a_o_isKept a_o_makes a_o_works a_o_order : Nat) (o_thrown : Int32) (o_trace : Int64) (o_typed : Int32) (o_next : Int32) (o_token : Int32) (o_place : Int32) (o_value : Int32) (o_fault : Int32) (o_trades : Int32) (o_people : Int32) (o_draftTrades : Int32) (o_draftPeople : Int32) (o_isShut : Int32) (o_falling : Int32) (o_skips : Nat → Int32) (o_s : Nat → Int32) (o_spare : Nat → Int32)  (N : Nat) : ∀ (n : Nat) (o_works : Nat → Int32) (l1 : Int32) (o_works' : Nat → Int32) (l1' : Int32), fX5_again_22 N o_trades o_people o_skips o_s n o_works l1 = some (o_works', l1') → ∀ (H : Heap) (locs : List Loc) (ls : Array Slot), va_P (dC, dI) vwCl [(a_o, .inr (5, [.int o_thrown, .long o_trace, .ref a_o_text, .int o_typed, .int o_next, .int o_token, .int o_place, .int o_value, .int o_fault, .ref a_o_need, .ref a_o_made, .ref a_o_skillTold, .ref a_o_placeTold, .ref a_o_skips, .ref a_o_wheelTold, .int o_trades, .int o_people, .int o_draftTrades, .int o_draftPeople, .int o_isShut, .ref a_o_tunes, .ref a_o_s, .ref a_o_spare, .ref a_o_kept, .ref a_o_isKept, .ref a_o_makes, .ref a_o_works, .ref a_o_order, .int o_falling])), (a_o_skips, .inl (cI, 12, .inl o_skips)), (a_o_s, .inl (cI, 105, .inl o_s)), (a_o_spare, .inl (cI, 105, .inl o_spare)), (a_o_works, .inl (cI, 6, .inl o_works))] H → va_D A [(a_o, .inr (5, [.int o_thrown, .long o_trace, .ref a_o_text, .int o_typed, .int o_next, .int o_token, .int o_place, .int o_value, .int o_fault, .ref a_o_need, .ref a_o_made, .ref a_o_skillTold, .ref a_o_placeTold, .ref a_o_skips, .ref a_o_wheelTold, .int o_trades, .int o_people, .int o_draftTrades, .int o_draftPeople, .int o_isShut, .ref a_o_tunes, .ref a_o_s, .ref a_o_spare, .ref a_o_kept, .ref a_o_isKept, .ref a_o_makes, .ref a_o_works, .ref a_o_order, .int o_falling])), (a_o_skips, .inl (cI, 12, .inl o_skips)), (a_o_s, .inl (cI, 105, .inl o_s)), (a_o_spare, .inl (cI, 105, .inl o_spare)), (a_o_works, .inl (cI, 6, .inl o_works))] → va_S A s.heap H locs → lv_has ls 6 [(0, .ref a_o), (1, .int l1)] → (∀ (H : Heap) (locs : List Loc) (ls : Array Slot), va_P (dC, dI) vwCl [(a_o, .inr (5, [.int o_thrown, .long o_trace, .ref a_o_text, .int o_typed, .int o_next, .int o_token, .int o_place, .int o_value, .int o_fault, .ref a_o_need, .ref a_o_made, .ref a_o_skillTold, .ref a_o_placeTold, .ref a_o_skips, .ref a_o_wheelTold, .int o_trades, .int o_people, .int o_draftTrades, .int o_draftPeople, .int o_isShut, .ref a_o_tunes, .ref a_o_s, .ref a_o_spare, .ref a_o_kept, .ref a_o_isKept, .ref a_o_makes, .ref a_o_works, .ref a_o_order, .int o_falling])), (a_o_skips, .inl (cI, 12, .inl o_skips)), (a_o_s, .inl (cI, 105, .inl o_s)), (a_o_spare, .inl (cI, 105, .inl o_spare)), (a_o_works, .inl (cI, 6, .inl o_works'))] H → va_D A [(a_o, .inr (5, [.int o_thrown, .long o_trace, .ref a_o_text, .int o_typed, .int o_next, .int o_token, .int o_place, .int o_value, .int o_fault, .ref a_o_need, .ref a_o_made, .ref a_o_skillTold, .ref a_o_placeTold, .ref a_o_skips, .ref a_o_wheelTold, .int o_trades, .int o_people, .int o_draftTrades, .int o_draftPeople, .int o_isShut, .ref a_o_tunes, .ref a_o_s, .ref a_o_spare, .ref a_o_kept, .ref a_o_isKept, .ref a_o_makes, .ref a_o_works, .ref a_o_order, .int o_falling])), (a_o_skips, .inl (cI, 12, .inl o_skips)), (a_o_s, .inl (cI, 105, .inl o_s)), (a_o_spare, .inl (cI, 105, .inl o_spare)), (a_o_works, .inl (cI, 6, .inl o_works'))] → va_S A s.heap H locs → lv_has ls 6 [(0, .ref a_o)] → W p l e (headSpec wsX5_again rmX5_again).room s m args below meth c H locs 0 0 Q (F0 m 47 ls [])) → W p l e (headSpec wsX5_again rmX5_again).room s m args below meth c H locs 0 0 Q (F0 m 22 ls []) := by
  obtain ⟨hx, hb, hr, hml, hown, hts, hlocks, hA, hK, hN⟩ := id hg0
  have hF : CallFix p m c cX5_again 6 s args wsX5_again RX5 := ⟨hx, hb, hml, hown, hts⟩
  intro n
  induction n with
  | zero =>
    intro o_works l1 o_works' l1' hf
    have hf := fX5_again_22_0.symm.trans hf
    cases hf
  | succ n ih =>
    intro o_works l1 o_works' l1' hf H locs ls hP hD hS hl kx
    have hf := fX5_again_22_s.symm.trans hf
    refine lv_iload_n hx hb dX5_again_22 rfl (lv_at hl 1 rfl) ?_
    refine lv_aload_n hx hb dX5_again_23 rfl (lv_at hl 0 rfl) ?_
    refine va_get (D := (dC, dI)) (ci := 5) (v := .int o_people) (C := RX5) (T := TX5) (N := 29) hx hb hts uX5_again_X5 hown hK hP 0 rfl rfl 16 (by decide) (hts _ mX5_again_2) (fun _ h9 => h9) rfl dX5_again_24 ?_
    refine lv_icmp_ge (tgt := 47) hx hb dX5_again_27 (by decide) (fun c_1 => ?_) (fun c_1 => ?_)
    · have hf := pit hf c_1
      have q0 := Option.some.inj hf
      obtain ⟨e0, q1⟩ := Prod.mk.inj q0
      subst e0
      subst q1
      exact kx _ _ _ hP hD hS (lv_sub hl [0] rfl)
    · have hf := pif hf c_1
      refine lv_aload_n hx hb dX5_again_30 rfl (lv_at hl 0 rfl) ?_
      refine va_get (D := (dC, dI)) (ci := 5) (v := .ref a_o_works) (C := RX5) (T := TX5) (N := 29) hx hb hts uX5_again_X5 hown hK hP 0 rfl rfl 26 (by decide) (hts _ mX5_again_3) (fun _ h9 => h9) rfl dX5_again_31 ?_
      refine lv_iload_n hx hb dX5_again_34 rfl (lv_at hl 1 rfl) ?_
      refine lv_aload_n hx hb dX5_again_35 rfl (lv_at hl 0 rfl) ?_
      refine lv_iload_n hx hb dX5_again_36 rfl (lv_at hl 1 rfl) ?_
      obtain ⟨r_2, hc, hf⟩ := pb1 hf
      refine gCi (va_runV (As := [.int l1]) (rest := [.int l1, .ref a_o_works]) hF (kX5_worksAt l dC dI Z cC cI cZ cW a_o a_o_text a_o_need a_o_made a_o_skillTold a_o_placeTold a_o_skips a_o_wheelTold a_o_tunes a_o_s a_o_spare a_o_kept a_o_isKept a_o_makes a_o_works a_o_order _ o_thrown o_trace o_typed o_next o_token o_place o_value o_fault o_trades o_people o_draftTrades o_draftPeople o_isShut o_falling o_skips o_s l1 N r_2 hc) (cwV 1 hts gX5_again_X5_worksAt rfl rfl rfl (by decide +kernel) ⟨Nat.le_of_ble_eq_true rfl, Nat.le_of_ble_eq_true rfl⟩) (gPV (wc := [(a_o, .inr (5, [.int o_thrown, .long o_trace, .ref a_o_text, .int o_typed, .int o_next, .int o_token, .int o_place, .int o_value, .int o_fault, .ref a_o_need, .ref a_o_made, .ref a_o_skillTold, .ref a_o_placeTold, .ref a_o_skips, .ref a_o_wheelTold, .int o_trades, .int o_people, .int o_draftTrades, .int o_draftPeople, .int o_isShut, .ref a_o_tunes, .ref a_o_s, .ref a_o_spare, .ref a_o_kept, .ref a_o_isKept, .ref a_o_makes, .ref a_o_works, .ref a_o_order, .int o_falling])), (a_o_skips, .inl (cI, 12, .inl o_skips)), (a_o_s, .inl (cI, 105, .inl o_s))]) hK hN hA hS hP hD [0, 1, 2] rfl rfl (q0 := 0) (ci := 5) rfl rfl rfl) rfl rfl hl.1 rfl (lv_room (Nat.le_of_ble_eq_true rfl)) dX5_again_37 ⟨Nat.zero_le _, Nat.zero_le _⟩) hP hD hS hA [0, 1, 2] rfl rfl rfl (fun H locs hP hD hS => ?_)
      have hP : va_P (dC, dI) vwCl [(a_o, .inr (5, [.int o_thrown, .long o_trace, .ref a_o_text, .int o_typed, .int o_next, .int o_token, .int o_place, .int o_value, .int o_fault, .ref a_o_need, .ref a_o_made, .ref a_o_skillTold, .ref a_o_placeTold, .ref a_o_skips, .ref a_o_wheelTold, .int o_trades, .int o_people, .int o_draftTrades, .int o_draftPeople, .int o_isShut, .ref a_o_tunes, .ref a_o_s, .ref a_o_spare, .ref a_o_kept, .ref a_o_isKept, .ref a_o_makes, .ref a_o_works, .ref a_o_order, .int o_falling])), (a_o_skips, .inl (cI, 12, .inl o_skips)), (a_o_s, .inl (cI, 105, .inl o_s)), (a_o_spare, .inl (cI, 105, .inl o_spare)), (a_o_works, .inl (cI, 6, .inl o_works))] H := hP
      have hD : va_D A [(a_o, .inr (5, [.int o_thrown, .long o_trace, .ref a_o_text, .int o_typed, .int o_next, .int o_token, .int o_place, .int o_value, .int o_fault, .ref a_o_need, .ref a_o_made, .ref a_o_skillTold, .ref a_o_placeTold, .ref a_o_skips, .ref a_o_wheelTold, .int o_trades, .int o_people, .int o_draftTrades, .int o_draftPeople, .int o_isShut, .ref a_o_tunes, .ref a_o_s, .ref a_o_spare, .ref a_o_kept, .ref a_o_isKept, .ref a_o_makes, .ref a_o_works, .ref a_o_order, .int o_falling])), (a_o_skips, .inl (cI, 12, .inl o_skips)), (a_o_s, .inl (cI, 105, .inl o_s)), (a_o_spare, .inl (cI, 105, .inl o_spare)), (a_o_works, .inl (cI, 6, .inl o_works))] := hD
      obtain ⟨h_3, hf⟩ := pgd hf
      refine va_iast hx hb hK hP hD hS 4 1 rfl rfl h_3 dX5_again_40 (fun H locs hP hD hS => ?_)
      have hP : va_P (dC, dI) vwCl [(a_o, .inr (5, [.int o_thrown, .long o_trace, .ref a_o_text, .int o_typed, .int o_next, .int o_token, .int o_place, .int o_value, .int o_fault, .ref a_o_need, .ref a_o_made, .ref a_o_skillTold, .ref a_o_placeTold, .ref a_o_skips, .ref a_o_wheelTold, .int o_trades, .int o_people, .int o_draftTrades, .int o_draftPeople, .int o_isShut, .ref a_o_tunes, .ref a_o_s, .ref a_o_spare, .ref a_o_kept, .ref a_o_isKept, .ref a_o_makes, .ref a_o_works, .ref a_o_order, .int o_falling])), (a_o_skips, .inl (cI, 12, .inl o_skips)), (a_o_s, .inl (cI, 105, .inl o_s)), (a_o_spare, .inl (cI, 105, .inl o_spare)), (a_o_works, .inl (cI, 6, .inl (upd o_works l1.toNatClampNeg r_2)))] H := hP
      have hD : va_D A [(a_o, .inr (5, [.int o_thrown, .long o_trace, .ref a_o_text, .int o_typed, .int o_next, .int o_token, .int o_place, .int o_value, .int o_fault, .ref a_o_need, .ref a_o_made, .ref a_o_skillTold, .ref a_o_placeTold, .ref a_o_skips, .ref a_o_wheelTold, .int o_trades, .int o_people, .int o_draftTrades, .int o_draftPeople, .int o_isShut, .ref a_o_tunes, .ref a_o_s, .ref a_o_spare, .ref a_o_kept, .ref a_o_isKept, .ref a_o_makes, .ref a_o_works, .ref a_o_order, .int o_falling])), (a_o_skips, .inl (cI, 12, .inl o_skips)), (a_o_s, .inl (cI, 105, .inl o_s)), (a_o_spare, .inl (cI, 105, .inl o_spare)), (a_o_works, .inl (cI, 6, .inl (upd o_works l1.toNatClampNeg r_2)))] := hD
      refine lv_iinc (v := (l1 + 1)) (lv' := [(1, .int (l1 + 1)), (0, .ref a_o)]) hx hb dX5_again_41 hl (k := 1) rfl rfl (by decide) rfl (fun ls hl => ?_)
      refine lv_goto (tgt := 22) hx hb dX5_again_44 (by decide) ?_
      exact ih _ _ _ _ hf _ _ _ hP hD hS (lv_sub hl [1, 0] rfl) kx
set_option maxHeartbeats 4000000 in
set_option maxRecDepth 100000 in
theorem wX5_again_69 {p : Program} {l : Launch} {e : Env} {s : State} {m : MethodId} {args : Array Value} {below : List Frame} {meth : Method} {c : Code} {Q : State → Prop} {A : Nat → Prop} {dC : Nat → ClassId} {dI : Nat → Nat → Nat} {Z : gZ} {cC cI cZ cW : ClassId} (hg0 : gX p s m args meth c cX5_again 6 (some .int) wsX5_again RX5 (dC, dI) Z [(cC, .char), (cI, .int), (cZ, .boolean), (cW, .object RX3)] A) (a_o a_o_text a_o_need a_o_made a_o_skillTold a_o_placeTold a_o_skips a_o_wheelTold a_o_tunes a_o_s a_o_spare a_o_kept a_o_isKept a_o_makes a_o_works a_o_order : Nat) (o_thrown : Int32) (o_trace : Int64) (o_typed : Int32) (o_next : Int32) (o_token : Int32) (o_place : Int32) (o_value : Int32) (o_fault : Int32) (o_trades : Int32) (o_people : Int32) (o_draftTrades : Int32) (o_draftPeople : Int32) (o_isShut : Int32) (o_falling : Int32) (o_skips : Nat → Int32) (o_spare : Nat → Int32) (o_works : Nat → Int32) (l2 : Int32) (N : Nat) : ∀ (n : Nat) (o_s : Nat → Int32) (l3 : Int32) (l4 : Int32) (o_s' : Nat → Int32) (l3' : Int32) (l4' : Int32), fX5_again_69 N o_trades o_people o_skips o_works n o_s l3 l4 = some (o_s', l3', l4') → ∀ (H : Heap) (locs : List Loc) (ls : Array Slot), va_P (dC, dI) vwCl [(a_o, .inr (5, [.int o_thrown, .long o_trace, .ref a_o_text, .int o_typed, .int o_next, .int o_token, .int o_place, .int o_value, .int o_fault, .ref a_o_need, .ref a_o_made, .ref a_o_skillTold, .ref a_o_placeTold, .ref a_o_skips, .ref a_o_wheelTold, .int o_trades, .int o_people, .int o_draftTrades, .int o_draftPeople, .int o_isShut, .ref a_o_tunes, .ref a_o_s, .ref a_o_spare, .ref a_o_kept, .ref a_o_isKept, .ref a_o_makes, .ref a_o_works, .ref a_o_order, .int o_falling])), (a_o_skips, .inl (cI, 12, .inl o_skips)), (a_o_s, .inl (cI, 105, .inl o_s)), (a_o_spare, .inl (cI, 105, .inl o_spare)), (a_o_works, .inl (cI, 6, .inl o_works))] H → va_D A [(a_o, .inr (5, [.int o_thrown, .long o_trace, .ref a_o_text, .int o_typed, .int o_next, .int o_token, .int o_place, .int o_value, .int o_fault, .ref a_o_need, .ref a_o_made, .ref a_o_skillTold, .ref a_o_placeTold, .ref a_o_skips, .ref a_o_wheelTold, .int o_trades, .int o_people, .int o_draftTrades, .int o_draftPeople, .int o_isShut, .ref a_o_tunes, .ref a_o_s, .ref a_o_spare, .ref a_o_kept, .ref a_o_isKept, .ref a_o_makes, .ref a_o_works, .ref a_o_order, .int o_falling])), (a_o_skips, .inl (cI, 12, .inl o_skips)), (a_o_s, .inl (cI, 105, .inl o_s)), (a_o_spare, .inl (cI, 105, .inl o_spare)), (a_o_works, .inl (cI, 6, .inl o_works))] → va_S A s.heap H locs → lv_has ls 6 [(0, .ref a_o), (2, .int l2), (3, .int l3), (4, .int l4)] → (∀ (H : Heap) (locs : List Loc) (ls : Array Slot), va_P (dC, dI) vwCl [(a_o, .inr (5, [.int o_thrown, .long o_trace, .ref a_o_text, .int o_typed, .int o_next, .int o_token, .int o_place, .int o_value, .int o_fault, .ref a_o_need, .ref a_o_made, .ref a_o_skillTold, .ref a_o_placeTold, .ref a_o_skips, .ref a_o_wheelTold, .int o_trades, .int o_people, .int o_draftTrades, .int o_draftPeople, .int o_isShut, .ref a_o_tunes, .ref a_o_s, .ref a_o_spare, .ref a_o_kept, .ref a_o_isKept, .ref a_o_makes, .ref a_o_works, .ref a_o_order, .int o_falling])), (a_o_skips, .inl (cI, 12, .inl o_skips)), (a_o_s, .inl (cI, 105, .inl o_s')), (a_o_spare, .inl (cI, 105, .inl o_spare)), (a_o_works, .inl (cI, 6, .inl o_works))] H → va_D A [(a_o, .inr (5, [.int o_thrown, .long o_trace, .ref a_o_text, .int o_typed, .int o_next, .int o_token, .int o_place, .int o_value, .int o_fault, .ref a_o_need, .ref a_o_made, .ref a_o_skillTold, .ref a_o_placeTold, .ref a_o_skips, .ref a_o_wheelTold, .int o_trades, .int o_people, .int o_draftTrades, .int o_draftPeople, .int o_isShut, .ref a_o_tunes, .ref a_o_s, .ref a_o_spare, .ref a_o_kept, .ref a_o_isKept, .ref a_o_makes, .ref a_o_works, .ref a_o_order, .int o_falling])), (a_o_skips, .inl (cI, 12, .inl o_skips)), (a_o_s, .inl (cI, 105, .inl o_s')), (a_o_spare, .inl (cI, 105, .inl o_spare)), (a_o_works, .inl (cI, 6, .inl o_works))] → va_S A s.heap H locs → lv_has ls 6 [(0, .ref a_o), (2, .int l2), (3, .int l3')] → W p l e (headSpec wsX5_again rmX5_again).room s m args below meth c H locs 0 0 Q (F0 m 157 ls [])) → W p l e (headSpec wsX5_again rmX5_again).room s m args below meth c H locs 0 0 Q (F0 m 69 ls []) := by
  obtain ⟨hx, hb, hr, hml, hown, hts, hlocks, hA, hK, hN⟩ := id hg0
  have hF : CallFix p m c cX5_again 6 s args wsX5_again RX5 := ⟨hx, hb, hml, hown, hts⟩
  intro n
  induction n with
  | zero =>
    intro o_s l3 l4 o_s' l3' l4' hf
    have hf := fX5_again_69_0.symm.trans hf
    cases hf
  | succ n ih =>
    intro o_s l3 l4 o_s' l3' l4' hf H locs ls hP hD hS hl kx
    have hf := fX5_again_69_s.symm.trans hf
    refine lv_iload hx hb dX5_again_69 (lv_at hl 3 rfl) ?_
    refine lv_aload_n hx hb dX5_again_71 rfl (lv_at hl 0 rfl) ?_
    refine va_get (D := (dC, dI)) (ci := 5) (v := .int o_people) (C := RX5) (T := TX5) (N := 29) hx hb hts uX5_again_X5 hown hK hP 0 rfl rfl 16 (by decide) (hts _ mX5_again_2) (fun _ h9 => h9) rfl dX5_again_72 ?_
    refine lv_icmp_ge (tgt := 157) hx hb dX5_again_75 (by decide) (fun c_1 => ?_) (fun c_1 => ?_)
    · have hf := pit hf c_1
      have q0 := Option.some.inj hf
      obtain ⟨e0, q1⟩ := Prod.mk.inj q0
      obtain ⟨e1, q2⟩ := Prod.mk.inj q1
      subst e0
      subst e1
      subst q2
      exact kx _ _ _ hP hD hS (lv_sub hl [0, 1, 2] rfl)
    · have hf := pif hf c_1
      refine lv_aload_n hx hb dX5_again_78 rfl (lv_at hl 0 rfl) ?_
      refine lv_iload hx hb dX5_again_79 (lv_at hl 3 rfl) ?_
      obtain ⟨r_2, hc, hf⟩ := pb1 hf
      refine gCi (va_runV (As := [.int l4]) (rest := []) hF (kX5_placeOf l dC dI Z cC cI cZ cW a_o a_o_text a_o_need a_o_made a_o_skillTold a_o_placeTold a_o_skips a_o_wheelTold a_o_tunes a_o_s a_o_spare a_o_kept a_o_isKept a_o_makes a_o_works a_o_order _ o_thrown o_trace o_typed o_next o_token o_place o_value o_fault o_trades o_people o_draftTrades o_draftPeople o_isShut o_falling o_skips o_s l4 N r_2 hc) (cwV 1 hts gX5_again_X5_placeOf rfl rfl rfl (by decide +kernel) ⟨Nat.le_of_ble_eq_true rfl, Nat.le_of_ble_eq_true rfl⟩) (gPV (wc := [(a_o, .inr (5, [.int o_thrown, .long o_trace, .ref a_o_text, .int o_typed, .int o_next, .int o_token, .int o_place, .int o_value, .int o_fault, .ref a_o_need, .ref a_o_made, .ref a_o_skillTold, .ref a_o_placeTold, .ref a_o_skips, .ref a_o_wheelTold, .int o_trades, .int o_people, .int o_draftTrades, .int o_draftPeople, .int o_isShut, .ref a_o_tunes, .ref a_o_s, .ref a_o_spare, .ref a_o_kept, .ref a_o_isKept, .ref a_o_makes, .ref a_o_works, .ref a_o_order, .int o_falling])), (a_o_skips, .inl (cI, 12, .inl o_skips)), (a_o_s, .inl (cI, 105, .inl o_s))]) hK hN hA hS hP hD [0, 1, 2] rfl rfl (q0 := 0) (ci := 5) rfl rfl rfl) rfl rfl hl.1 rfl (lv_room (Nat.le_of_ble_eq_true rfl)) dX5_again_81 ⟨Nat.zero_le _, Nat.zero_le _⟩) hP hD hS hA [0, 1, 2] rfl rfl rfl (fun H locs hP hD hS => ?_)
      have hP : va_P (dC, dI) vwCl [(a_o, .inr (5, [.int o_thrown, .long o_trace, .ref a_o_text, .int o_typed, .int o_next, .int o_token, .int o_place, .int o_value, .int o_fault, .ref a_o_need, .ref a_o_made, .ref a_o_skillTold, .ref a_o_placeTold, .ref a_o_skips, .ref a_o_wheelTold, .int o_trades, .int o_people, .int o_draftTrades, .int o_draftPeople, .int o_isShut, .ref a_o_tunes, .ref a_o_s, .ref a_o_spare, .ref a_o_kept, .ref a_o_isKept, .ref a_o_makes, .ref a_o_works, .ref a_o_order, .int o_falling])), (a_o_skips, .inl (cI, 12, .inl o_skips)), (a_o_s, .inl (cI, 105, .inl o_s)), (a_o_spare, .inl (cI, 105, .inl o_spare)), (a_o_works, .inl (cI, 6, .inl o_works))] H := hP
      have hD : va_D A [(a_o, .inr (5, [.int o_thrown, .long o_trace, .ref a_o_text, .int o_typed, .int o_next, .int o_token, .int o_place, .int o_value, .int o_fault, .ref a_o_need, .ref a_o_made, .ref a_o_skillTold, .ref a_o_placeTold, .ref a_o_skips, .ref a_o_wheelTold, .int o_trades, .int o_people, .int o_draftTrades, .int o_draftPeople, .int o_isShut, .ref a_o_tunes, .ref a_o_s, .ref a_o_spare, .ref a_o_kept, .ref a_o_isKept, .ref a_o_makes, .ref a_o_works, .ref a_o_order, .int o_falling])), (a_o_skips, .inl (cI, 12, .inl o_skips)), (a_o_s, .inl (cI, 105, .inl o_s)), (a_o_spare, .inl (cI, 105, .inl o_spare)), (a_o_works, .inl (cI, 6, .inl o_works))] := hD
      refine lv_istore (lv' := [(5, .int r_2), (0, .ref a_o), (2, .int l2), (3, .int l3), (4, .int l4)]) hx hb dX5_again_84 hl (by decide) rfl (fun ls hl => ?_)
      refine lv_aload_n hx hb dX5_again_86 rfl (lv_at hl 1 rfl) ?_
      refine va_get (D := (dC, dI)) (ci := 5) (v := .ref a_o_s) (C := RX5) (T := TX5) (N := 29) hx hb hts uX5_again_X5 hown hK hP 0 rfl rfl 21 (by decide) (hts _ mX5_again_4) (fun _ h9 => h9) rfl dX5_again_87 ?_
      refine lv_bipush (v := (20 : Int32)) hx hb dX5_again_90 (by decide) ?_
      refine lv_iload hx hb dX5_again_92 (lv_at hl 4 rfl) ?_
      refine lv_iadd hx hb dX5_again_94 ?_
      refine lv_iload hx hb dX5_again_95 (lv_at hl 0 rfl) ?_
      refine lv_bipush (v := (-9 : Int32)) hx hb dX5_again_97 (by decide) ?_
      refine lv_icmp_ne (tgt := 115) hx hb dX5_again_99 (by decide) (fun c_3 => ?_) (fun c_3 => ?_)
      · have hf := pif hf c_3
        refine lv_iload hx hb dX5_again_115 (lv_at hl 0 rfl) ?_
        refine lv_iconst (v := (1 : Int32)) hx hb dX5_again_117 (by decide) ?_
        refine lv_iadd hx hb dX5_again_118 ?_
        refine lv_aload_n hx hb dX5_again_119 rfl (lv_at hl 1 rfl) ?_
        refine va_get (D := (dC, dI)) (ci := 5) (v := .int o_trades) (C := RX5) (T := TX5) (N := 29) hx hb hts uX5_again_X5 hown hK hP 0 rfl rfl 15 (by decide) (hts _ mX5_again_1) (fun _ h9 => h9) rfl dX5_again_120 ?_
        obtain ⟨hz_4, hf⟩ := pgz hf
        refine lv_irem hx hb dX5_again_123 hz_4 ?_
        obtain ⟨h_5, hf⟩ := pgd hf
        refine va_iast hx hb hK hP hD hS 2 1 rfl rfl h_5 dX5_again_124 (fun H locs hP hD hS => ?_)
        have hP : va_P (dC, dI) vwCl [(a_o, .inr (5, [.int o_thrown, .long o_trace, .ref a_o_text, .int o_typed, .int o_next, .int o_token, .int o_place, .int o_value, .int o_fault, .ref a_o_need, .ref a_o_made, .ref a_o_skillTold, .ref a_o_placeTold, .ref a_o_skips, .ref a_o_wheelTold, .int o_trades, .int o_people, .int o_draftTrades, .int o_draftPeople, .int o_isShut, .ref a_o_tunes, .ref a_o_s, .ref a_o_spare, .ref a_o_kept, .ref a_o_isKept, .ref a_o_makes, .ref a_o_works, .ref a_o_order, .int o_falling])), (a_o_skips, .inl (cI, 12, .inl o_skips)), (a_o_s, .inl (cI, 105, .inl (upd o_s ((20 : Int32) + l4).toNatClampNeg ((r_2 + (1 : Int32)) - (r_2 + (1 : Int32)) / o_trades * o_trades)))), (a_o_spare, .inl (cI, 105, .inl o_spare)), (a_o_works, .inl (cI, 6, .inl o_works))] H := hP
        have hD : va_D A [(a_o, .inr (5, [.int o_thrown, .long o_trace, .ref a_o_text, .int o_typed, .int o_next, .int o_token, .int o_place, .int o_value, .int o_fault, .ref a_o_need, .ref a_o_made, .ref a_o_skillTold, .ref a_o_placeTold, .ref a_o_skips, .ref a_o_wheelTold, .int o_trades, .int o_people, .int o_draftTrades, .int o_draftPeople, .int o_isShut, .ref a_o_tunes, .ref a_o_s, .ref a_o_spare, .ref a_o_kept, .ref a_o_isKept, .ref a_o_makes, .ref a_o_works, .ref a_o_order, .int o_falling])), (a_o_skips, .inl (cI, 12, .inl o_skips)), (a_o_s, .inl (cI, 105, .inl (upd o_s ((20 : Int32) + l4).toNatClampNeg ((r_2 + (1 : Int32)) - (r_2 + (1 : Int32)) / o_trades * o_trades)))), (a_o_spare, .inl (cI, 105, .inl o_spare)), (a_o_works, .inl (cI, 6, .inl o_works))] := hD
        refine lv_iload_n hx hb dX5_again_125 rfl (lv_at hl 3 rfl) ?_
        refine lv_if_eq (tgt := 149) hx hb dX5_again_126 (by decide) (fun c_6 => ?_) (fun c_6 => ?_)
        · have hf := pit hf c_6
          refine lv_iconst (v := (0 : Int32)) hx hb dX5_again_149 (by decide) ?_
          refine lv_istore_n (lv' := [(3, .int (0 : Int32)), (5, .int r_2), (0, .ref a_o), (2, .int l2), (4, .int l4)]) hx hb dX5_again_150 rfl hl (by decide) rfl (fun ls hl => ?_)
          refine lv_iinc (v := (l4 + 1)) (lv' := [(4, .int (l4 + 1)), (3, .int (0 : Int32)), (5, .int r_2), (0, .ref a_o), (2, .int l2)]) hx hb dX5_again_151 hl (k := 4) rfl rfl (by decide) rfl (fun ls hl => ?_)
          refine lv_goto (tgt := 69) hx hb dX5_again_154 (by decide) ?_
          exact ih _ _ _ _ _ _ hf _ _ _ hP hD hS (lv_sub hl [3, 4, 1, 0] rfl) kx
        · have hf := pif hf c_6
          refine lv_aload_n hx hb dX5_again_129 rfl (lv_at hl 1 rfl) ?_
          refine lv_iload hx hb dX5_again_130 (lv_at hl 4 rfl) ?_
          obtain ⟨r_7, hc, hf⟩ := pb1 hf
          refine gCi (va_runV (As := [.int l4]) (rest := []) hF (kX5_worksAt l dC dI Z cC cI cZ cW a_o a_o_text a_o_need a_o_made a_o_skillTold a_o_placeTold a_o_skips a_o_wheelTold a_o_tunes a_o_s a_o_spare a_o_kept a_o_isKept a_o_makes a_o_works a_o_order _ o_thrown o_trace o_typed o_next o_token o_place o_value o_fault o_trades o_people o_draftTrades o_draftPeople o_isShut o_falling o_skips (upd o_s ((20 : Int32) + l4).toNatClampNeg ((r_2 + (1 : Int32)) - (r_2 + (1 : Int32)) / o_trades * o_trades)) l4 N r_7 hc) (cwV 1 hts gX5_again_X5_worksAt rfl rfl rfl (by decide +kernel) ⟨Nat.le_of_ble_eq_true rfl, Nat.le_of_ble_eq_true rfl⟩) (gPV (wc := [(a_o, .inr (5, [.int o_thrown, .long o_trace, .ref a_o_text, .int o_typed, .int o_next, .int o_token, .int o_place, .int o_value, .int o_fault, .ref a_o_need, .ref a_o_made, .ref a_o_skillTold, .ref a_o_placeTold, .ref a_o_skips, .ref a_o_wheelTold, .int o_trades, .int o_people, .int o_draftTrades, .int o_draftPeople, .int o_isShut, .ref a_o_tunes, .ref a_o_s, .ref a_o_spare, .ref a_o_kept, .ref a_o_isKept, .ref a_o_makes, .ref a_o_works, .ref a_o_order, .int o_falling])), (a_o_skips, .inl (cI, 12, .inl o_skips)), (a_o_s, .inl (cI, 105, .inl (upd o_s ((20 : Int32) + l4).toNatClampNeg ((r_2 + (1 : Int32)) - (r_2 + (1 : Int32)) / o_trades * o_trades))))]) hK hN hA hS hP hD [0, 1, 2] rfl rfl (q0 := 0) (ci := 5) rfl rfl rfl) rfl rfl hl.1 rfl (lv_room (Nat.le_of_ble_eq_true rfl)) dX5_again_132 ⟨Nat.zero_le _, Nat.zero_le _⟩) hP hD hS hA [0, 1, 2] rfl rfl rfl (fun H locs hP hD hS => ?_)
          have hP : va_P (dC, dI) vwCl [(a_o, .inr (5, [.int o_thrown, .long o_trace, .ref a_o_text, .int o_typed, .int o_next, .int o_token, .int o_place, .int o_value, .int o_fault, .ref a_o_need, .ref a_o_made, .ref a_o_skillTold, .ref a_o_placeTold, .ref a_o_skips, .ref a_o_wheelTold, .int o_trades, .int o_people, .int o_draftTrades, .int o_draftPeople, .int o_isShut, .ref a_o_tunes, .ref a_o_s, .ref a_o_spare, .ref a_o_kept, .ref a_o_isKept, .ref a_o_makes, .ref a_o_works, .ref a_o_order, .int o_falling])), (a_o_skips, .inl (cI, 12, .inl o_skips)), (a_o_s, .inl (cI, 105, .inl (upd o_s ((20 : Int32) + l4).toNatClampNeg ((r_2 + (1 : Int32)) - (r_2 + (1 : Int32)) / o_trades * o_trades)))), (a_o_spare, .inl (cI, 105, .inl o_spare)), (a_o_works, .inl (cI, 6, .inl o_works))] H := hP
          have hD : va_D A [(a_o, .inr (5, [.int o_thrown, .long o_trace, .ref a_o_text, .int o_typed, .int o_next, .int o_token, .int o_place, .int o_value, .int o_fault, .ref a_o_need, .ref a_o_made, .ref a_o_skillTold, .ref a_o_placeTold, .ref a_o_skips, .ref a_o_wheelTold, .int o_trades, .int o_people, .int o_draftTrades, .int o_draftPeople, .int o_isShut, .ref a_o_tunes, .ref a_o_s, .ref a_o_spare, .ref a_o_kept, .ref a_o_isKept, .ref a_o_makes, .ref a_o_works, .ref a_o_order, .int o_falling])), (a_o_skips, .inl (cI, 12, .inl o_skips)), (a_o_s, .inl (cI, 105, .inl (upd o_s ((20 : Int32) + l4).toNatClampNeg ((r_2 + (1 : Int32)) - (r_2 + (1 : Int32)) / o_trades * o_trades)))), (a_o_spare, .inl (cI, 105, .inl o_spare)), (a_o_works, .inl (cI, 6, .inl o_works))] := hD
          refine lv_aload_n hx hb dX5_again_135 rfl (lv_at hl 1 rfl) ?_
          refine va_get (D := (dC, dI)) (ci := 5) (v := .ref a_o_works) (C := RX5) (T := TX5) (N := 29) hx hb hts uX5_again_X5 hown hK hP 0 rfl rfl 26 (by decide) (hts _ mX5_again_3) (fun _ h9 => h9) rfl dX5_again_136 ?_
          refine lv_iload hx hb dX5_again_139 (lv_at hl 4 rfl) ?_
          obtain ⟨h_8, hf⟩ := pgd hf
          refine va_iald hx hb hK hP 4 1 rfl rfl h_8 dX5_again_141 ?_
          refine lv_icmp_ne (tgt := 149) hx hb dX5_again_142 (by decide) (fun c_9 => ?_) (fun c_9 => ?_)
          · have hf := pif hf c_9
            refine lv_iconst (v := (0 : Int32)) hx hb dX5_again_149 (by decide) ?_
            refine lv_istore_n (lv' := [(3, .int (0 : Int32)), (5, .int r_2), (0, .ref a_o), (2, .int l2), (4, .int l4)]) hx hb dX5_again_150 rfl hl (by decide) rfl (fun ls hl => ?_)
            refine lv_iinc (v := (l4 + 1)) (lv' := [(4, .int (l4 + 1)), (3, .int (0 : Int32)), (5, .int r_2), (0, .ref a_o), (2, .int l2)]) hx hb dX5_again_151 hl (k := 4) rfl rfl (by decide) rfl (fun ls hl => ?_)
            refine lv_goto (tgt := 69) hx hb dX5_again_154 (by decide) ?_
            exact ih _ _ _ _ _ _ hf _ _ _ hP hD hS (lv_sub hl [3, 4, 1, 0] rfl) kx
          · have hf := pit hf c_9
            refine lv_iconst (v := (1 : Int32)) hx hb dX5_again_145 (by decide) ?_
            refine lv_goto (tgt := 150) hx hb dX5_again_146 (by decide) ?_
            refine lv_istore_n (lv' := [(3, .int (1 : Int32)), (5, .int r_2), (0, .ref a_o), (2, .int l2), (4, .int l4)]) hx hb dX5_again_150 rfl hl (by decide) rfl (fun ls hl => ?_)
            refine lv_iinc (v := (l4 + 1)) (lv' := [(4, .int (l4 + 1)), (3, .int (1 : Int32)), (5, .int r_2), (0, .ref a_o), (2, .int l2)]) hx hb dX5_again_151 hl (k := 4) rfl rfl (by decide) rfl (fun ls hl => ?_)
            refine lv_goto (tgt := 69) hx hb dX5_again_154 (by decide) ?_
            exact ih _ _ _ _ _ _ hf _ _ _ hP hD hS (lv_sub hl [3, 4, 1, 0] rfl) kx
      · have hf := pit hf c_3
        refine lv_aload_n hx hb dX5_again_102 rfl (lv_at hl 1 rfl) ?_
        refine va_get (D := (dC, dI)) (ci := 5) (v := .ref a_o_s) (C := RX5) (T := TX5) (N := 29) hx hb hts uX5_again_X5 hown hK hP 0 rfl rfl 21 (by decide) (hts _ mX5_again_4) (fun _ h9 => h9) rfl dX5_again_103 ?_
        refine lv_bipush (v := (20 : Int32)) hx hb dX5_again_106 (by decide) ?_
        refine lv_iload hx hb dX5_again_108 (lv_at hl 4 rfl) ?_
        refine lv_iadd hx hb dX5_again_110 ?_
        obtain ⟨h_10, hf⟩ := pgd hf
        refine va_iald hx hb hK hP 2 1 rfl rfl h_10 dX5_again_111 ?_
        refine lv_goto (tgt := 117) hx hb dX5_again_112 (by decide) ?_
        refine lv_iconst (v := (1 : Int32)) hx hb dX5_again_117 (by decide) ?_
        refine lv_iadd hx hb dX5_again_118 ?_
        refine lv_aload_n hx hb dX5_again_119 rfl (lv_at hl 1 rfl) ?_
        refine va_get (D := (dC, dI)) (ci := 5) (v := .int o_trades) (C := RX5) (T := TX5) (N := 29) hx hb hts uX5_again_X5 hown hK hP 0 rfl rfl 15 (by decide) (hts _ mX5_again_1) (fun _ h9 => h9) rfl dX5_again_120 ?_
        obtain ⟨hz_11, hf⟩ := pgz hf
        refine lv_irem hx hb dX5_again_123 hz_11 ?_
        obtain ⟨h_12, hf⟩ := pgd hf
        refine va_iast hx hb hK hP hD hS 2 1 rfl rfl h_12 dX5_again_124 (fun H locs hP hD hS => ?_)
        have hP : va_P (dC, dI) vwCl [(a_o, .inr (5, [.int o_thrown, .long o_trace, .ref a_o_text, .int o_typed, .int o_next, .int o_token, .int o_place, .int o_value, .int o_fault, .ref a_o_need, .ref a_o_made, .ref a_o_skillTold, .ref a_o_placeTold, .ref a_o_skips, .ref a_o_wheelTold, .int o_trades, .int o_people, .int o_draftTrades, .int o_draftPeople, .int o_isShut, .ref a_o_tunes, .ref a_o_s, .ref a_o_spare, .ref a_o_kept, .ref a_o_isKept, .ref a_o_makes, .ref a_o_works, .ref a_o_order, .int o_falling])), (a_o_skips, .inl (cI, 12, .inl o_skips)), (a_o_s, .inl (cI, 105, .inl (upd o_s ((20 : Int32) + l4).toNatClampNeg (((o_s ((20 : Int32) + l4).toNatClampNeg) + (1 : Int32)) - ((o_s ((20 : Int32) + l4).toNatClampNeg) + (1 : Int32)) / o_trades * o_trades)))), (a_o_spare, .inl (cI, 105, .inl o_spare)), (a_o_works, .inl (cI, 6, .inl o_works))] H := hP
        have hD : va_D A [(a_o, .inr (5, [.int o_thrown, .long o_trace, .ref a_o_text, .int o_typed, .int o_next, .int o_token, .int o_place, .int o_value, .int o_fault, .ref a_o_need, .ref a_o_made, .ref a_o_skillTold, .ref a_o_placeTold, .ref a_o_skips, .ref a_o_wheelTold, .int o_trades, .int o_people, .int o_draftTrades, .int o_draftPeople, .int o_isShut, .ref a_o_tunes, .ref a_o_s, .ref a_o_spare, .ref a_o_kept, .ref a_o_isKept, .ref a_o_makes, .ref a_o_works, .ref a_o_order, .int o_falling])), (a_o_skips, .inl (cI, 12, .inl o_skips)), (a_o_s, .inl (cI, 105, .inl (upd o_s ((20 : Int32) + l4).toNatClampNeg (((o_s ((20 : Int32) + l4).toNatClampNeg) + (1 : Int32)) - ((o_s ((20 : Int32) + l4).toNatClampNeg) + (1 : Int32)) / o_trades * o_trades)))), (a_o_spare, .inl (cI, 105, .inl o_spare)), (a_o_works, .inl (cI, 6, .inl o_works))] := hD
        refine lv_iload_n hx hb dX5_again_125 rfl (lv_at hl 3 rfl) ?_
        refine lv_if_eq (tgt := 149) hx hb dX5_again_126 (by decide) (fun c_13 => ?_) (fun c_13 => ?_)
        · have hf := pit hf c_13
          refine lv_iconst (v := (0 : Int32)) hx hb dX5_again_149 (by decide) ?_
          refine lv_istore_n (lv' := [(3, .int (0 : Int32)), (5, .int r_2), (0, .ref a_o), (2, .int l2), (4, .int l4)]) hx hb dX5_again_150 rfl hl (by decide) rfl (fun ls hl => ?_)
          refine lv_iinc (v := (l4 + 1)) (lv' := [(4, .int (l4 + 1)), (3, .int (0 : Int32)), (5, .int r_2), (0, .ref a_o), (2, .int l2)]) hx hb dX5_again_151 hl (k := 4) rfl rfl (by decide) rfl (fun ls hl => ?_)
          refine lv_goto (tgt := 69) hx hb dX5_again_154 (by decide) ?_
          exact ih _ _ _ _ _ _ hf _ _ _ hP hD hS (lv_sub hl [3, 4, 1, 0] rfl) kx
        · have hf := pif hf c_13
          refine lv_aload_n hx hb dX5_again_129 rfl (lv_at hl 1 rfl) ?_
          refine lv_iload hx hb dX5_again_130 (lv_at hl 4 rfl) ?_
          obtain ⟨r_14, hc, hf⟩ := pb1 hf
          refine gCi (va_runV (As := [.int l4]) (rest := []) hF (kX5_worksAt l dC dI Z cC cI cZ cW a_o a_o_text a_o_need a_o_made a_o_skillTold a_o_placeTold a_o_skips a_o_wheelTold a_o_tunes a_o_s a_o_spare a_o_kept a_o_isKept a_o_makes a_o_works a_o_order _ o_thrown o_trace o_typed o_next o_token o_place o_value o_fault o_trades o_people o_draftTrades o_draftPeople o_isShut o_falling o_skips (upd o_s ((20 : Int32) + l4).toNatClampNeg (((o_s ((20 : Int32) + l4).toNatClampNeg) + (1 : Int32)) - ((o_s ((20 : Int32) + l4).toNatClampNeg) + (1 : Int32)) / o_trades * o_trades)) l4 N r_14 hc) (cwV 1 hts gX5_again_X5_worksAt rfl rfl rfl (by decide +kernel) ⟨Nat.le_of_ble_eq_true rfl, Nat.le_of_ble_eq_true rfl⟩) (gPV (wc := [(a_o, .inr (5, [.int o_thrown, .long o_trace, .ref a_o_text, .int o_typed, .int o_next, .int o_token, .int o_place, .int o_value, .int o_fault, .ref a_o_need, .ref a_o_made, .ref a_o_skillTold, .ref a_o_placeTold, .ref a_o_skips, .ref a_o_wheelTold, .int o_trades, .int o_people, .int o_draftTrades, .int o_draftPeople, .int o_isShut, .ref a_o_tunes, .ref a_o_s, .ref a_o_spare, .ref a_o_kept, .ref a_o_isKept, .ref a_o_makes, .ref a_o_works, .ref a_o_order, .int o_falling])), (a_o_skips, .inl (cI, 12, .inl o_skips)), (a_o_s, .inl (cI, 105, .inl (upd o_s ((20 : Int32) + l4).toNatClampNeg (((o_s ((20 : Int32) + l4).toNatClampNeg) + (1 : Int32)) - ((o_s ((20 : Int32) + l4).toNatClampNeg) + (1 : Int32)) / o_trades * o_trades))))]) hK hN hA hS hP hD [0, 1, 2] rfl rfl (q0 := 0) (ci := 5) rfl rfl rfl) rfl rfl hl.1 rfl (lv_room (Nat.le_of_ble_eq_true rfl)) dX5_again_132 ⟨Nat.zero_le _, Nat.zero_le _⟩) hP hD hS hA [0, 1, 2] rfl rfl rfl (fun H locs hP hD hS => ?_)
          have hP : va_P (dC, dI) vwCl [(a_o, .inr (5, [.int o_thrown, .long o_trace, .ref a_o_text, .int o_typed, .int o_next, .int o_token, .int o_place, .int o_value, .int o_fault, .ref a_o_need, .ref a_o_made, .ref a_o_skillTold, .ref a_o_placeTold, .ref a_o_skips, .ref a_o_wheelTold, .int o_trades, .int o_people, .int o_draftTrades, .int o_draftPeople, .int o_isShut, .ref a_o_tunes, .ref a_o_s, .ref a_o_spare, .ref a_o_kept, .ref a_o_isKept, .ref a_o_makes, .ref a_o_works, .ref a_o_order, .int o_falling])), (a_o_skips, .inl (cI, 12, .inl o_skips)), (a_o_s, .inl (cI, 105, .inl (upd o_s ((20 : Int32) + l4).toNatClampNeg (((o_s ((20 : Int32) + l4).toNatClampNeg) + (1 : Int32)) - ((o_s ((20 : Int32) + l4).toNatClampNeg) + (1 : Int32)) / o_trades * o_trades)))), (a_o_spare, .inl (cI, 105, .inl o_spare)), (a_o_works, .inl (cI, 6, .inl o_works))] H := hP
          have hD : va_D A [(a_o, .inr (5, [.int o_thrown, .long o_trace, .ref a_o_text, .int o_typed, .int o_next, .int o_token, .int o_place, .int o_value, .int o_fault, .ref a_o_need, .ref a_o_made, .ref a_o_skillTold, .ref a_o_placeTold, .ref a_o_skips, .ref a_o_wheelTold, .int o_trades, .int o_people, .int o_draftTrades, .int o_draftPeople, .int o_isShut, .ref a_o_tunes, .ref a_o_s, .ref a_o_spare, .ref a_o_kept, .ref a_o_isKept, .ref a_o_makes, .ref a_o_works, .ref a_o_order, .int o_falling])), (a_o_skips, .inl (cI, 12, .inl o_skips)), (a_o_s, .inl (cI, 105, .inl (upd o_s ((20 : Int32) + l4).toNatClampNeg (((o_s ((20 : Int32) + l4).toNatClampNeg) + (1 : Int32)) - ((o_s ((20 : Int32) + l4).toNatClampNeg) + (1 : Int32)) / o_trades * o_trades)))), (a_o_spare, .inl (cI, 105, .inl o_spare)), (a_o_works, .inl (cI, 6, .inl o_works))] := hD
          refine lv_aload_n hx hb dX5_again_135 rfl (lv_at hl 1 rfl) ?_
          refine va_get (D := (dC, dI)) (ci := 5) (v := .ref a_o_works) (C := RX5) (T := TX5) (N := 29) hx hb hts uX5_again_X5 hown hK hP 0 rfl rfl 26 (by decide) (hts _ mX5_again_3) (fun _ h9 => h9) rfl dX5_again_136 ?_
          refine lv_iload hx hb dX5_again_139 (lv_at hl 4 rfl) ?_
          obtain ⟨h_15, hf⟩ := pgd hf
          refine va_iald hx hb hK hP 4 1 rfl rfl h_15 dX5_again_141 ?_
          refine lv_icmp_ne (tgt := 149) hx hb dX5_again_142 (by decide) (fun c_16 => ?_) (fun c_16 => ?_)
          · have hf := pif hf c_16
            refine lv_iconst (v := (0 : Int32)) hx hb dX5_again_149 (by decide) ?_
            refine lv_istore_n (lv' := [(3, .int (0 : Int32)), (5, .int r_2), (0, .ref a_o), (2, .int l2), (4, .int l4)]) hx hb dX5_again_150 rfl hl (by decide) rfl (fun ls hl => ?_)
            refine lv_iinc (v := (l4 + 1)) (lv' := [(4, .int (l4 + 1)), (3, .int (0 : Int32)), (5, .int r_2), (0, .ref a_o), (2, .int l2)]) hx hb dX5_again_151 hl (k := 4) rfl rfl (by decide) rfl (fun ls hl => ?_)
            refine lv_goto (tgt := 69) hx hb dX5_again_154 (by decide) ?_
            exact ih _ _ _ _ _ _ hf _ _ _ hP hD hS (lv_sub hl [3, 4, 1, 0] rfl) kx
          · have hf := pit hf c_16
            refine lv_iconst (v := (1 : Int32)) hx hb dX5_again_145 (by decide) ?_
            refine lv_goto (tgt := 150) hx hb dX5_again_146 (by decide) ?_
            refine lv_istore_n (lv' := [(3, .int (1 : Int32)), (5, .int r_2), (0, .ref a_o), (2, .int l2), (4, .int l4)]) hx hb dX5_again_150 rfl hl (by decide) rfl (fun ls hl => ?_)
            refine lv_iinc (v := (l4 + 1)) (lv' := [(4, .int (l4 + 1)), (3, .int (1 : Int32)), (5, .int r_2), (0, .ref a_o), (2, .int l2)]) hx hb dX5_again_151 hl (k := 4) rfl rfl (by decide) rfl (fun ls hl => ?_)
            refine lv_goto (tgt := 69) hx hb dX5_again_154 (by decide) ?_
            exact ih _ _ _ _ _ _ hf _ _ _ hP hD hS (lv_sub hl [3, 4, 1, 0] rfl) kx
set_option maxHeartbeats 4000000 in
set_option maxRecDepth 100000 in
theorem wX5_again_52 {p : Program} {l : Launch} {e : Env} {s : State} {m : MethodId} {args : Array Value} {below : List Frame} {meth : Method} {c : Code} {Q : State → Prop} {A : Nat → Prop} {dC : Nat → ClassId} {dI : Nat → Nat → Nat} {Z : gZ} {cC cI cZ cW : ClassId} (hg0 : gX p s m args meth c cX5_again 6 (some .int) wsX5_again RX5 (dC, dI) Z [(cC, .char), (cI, .int), (cZ, .boolean), (cW, .object RX3)] A) (a_o a_o_text a_o_need a_o_made a_o_skillTold a_o_placeTold a_o_skips a_o_wheelTold a_o_tunes a_o_s a_o_spare a_o_kept a_o_isKept a_o_makes a_o_works a_o_order : Nat) (o_thrown : Int32) (o_trace : Int64) (o_typed : Int32) (o_next : Int32) (o_token : Int32) (o_place : Int32) (o_value : Int32) (o_fault : Int32) (o_trades : Int32) (o_people : Int32) (o_draftTrades : Int32) (o_draftPeople : Int32) (o_isShut : Int32) (o_falling : Int32) (o_skips : Nat → Int32) (o_spare : Nat → Int32) (o_works : Nat → Int32)  (N : Nat) : ∀ (n : Nat) (o_s : Nat → Int32) (l1 : Int32) (l2 : Int32) (o_s' : Nat → Int32) (l1' : Int32) (l2' : Int32), fX5_again_52 N o_trades o_people o_skips o_works n o_s l1 l2 = some (o_s', l1', l2') → ∀ (H : Heap) (locs : List Loc) (ls : Array Slot), va_P (dC, dI) vwCl [(a_o, .inr (5, [.int o_thrown, .long o_trace, .ref a_o_text, .int o_typed, .int o_next, .int o_token, .int o_place, .int o_value, .int o_fault, .ref a_o_need, .ref a_o_made, .ref a_o_skillTold, .ref a_o_placeTold, .ref a_o_skips, .ref a_o_wheelTold, .int o_trades, .int o_people, .int o_draftTrades, .int o_draftPeople, .int o_isShut, .ref a_o_tunes, .ref a_o_s, .ref a_o_spare, .ref a_o_kept, .ref a_o_isKept, .ref a_o_makes, .ref a_o_works, .ref a_o_order, .int o_falling])), (a_o_skips, .inl (cI, 12, .inl o_skips)), (a_o_s, .inl (cI, 105, .inl o_s)), (a_o_spare, .inl (cI, 105, .inl o_spare)), (a_o_works, .inl (cI, 6, .inl o_works))] H → va_D A [(a_o, .inr (5, [.int o_thrown, .long o_trace, .ref a_o_text, .int o_typed, .int o_next, .int o_token, .int o_place, .int o_value, .int o_fault, .ref a_o_need, .ref a_o_made, .ref a_o_skillTold, .ref a_o_placeTold, .ref a_o_skips, .ref a_o_wheelTold, .int o_trades, .int o_people, .int o_draftTrades, .int o_draftPeople, .int o_isShut, .ref a_o_tunes, .ref a_o_s, .ref a_o_spare, .ref a_o_kept, .ref a_o_isKept, .ref a_o_makes, .ref a_o_works, .ref a_o_order, .int o_falling])), (a_o_skips, .inl (cI, 12, .inl o_skips)), (a_o_s, .inl (cI, 105, .inl o_s)), (a_o_spare, .inl (cI, 105, .inl o_spare)), (a_o_works, .inl (cI, 6, .inl o_works))] → va_S A s.heap H locs → lv_has ls 6 [(0, .ref a_o), (1, .int l1), (2, .int l2)] → (∀ (H : Heap) (locs : List Loc) (ls : Array Slot), va_P (dC, dI) vwCl [(a_o, .inr (5, [.int o_thrown, .long o_trace, .ref a_o_text, .int o_typed, .int o_next, .int o_token, .int o_place, .int o_value, .int o_fault, .ref a_o_need, .ref a_o_made, .ref a_o_skillTold, .ref a_o_placeTold, .ref a_o_skips, .ref a_o_wheelTold, .int o_trades, .int o_people, .int o_draftTrades, .int o_draftPeople, .int o_isShut, .ref a_o_tunes, .ref a_o_s, .ref a_o_spare, .ref a_o_kept, .ref a_o_isKept, .ref a_o_makes, .ref a_o_works, .ref a_o_order, .int o_falling])), (a_o_skips, .inl (cI, 12, .inl o_skips)), (a_o_s, .inl (cI, 105, .inl o_s')), (a_o_spare, .inl (cI, 105, .inl o_spare)), (a_o_works, .inl (cI, 6, .inl o_works))] H → va_D A [(a_o, .inr (5, [.int o_thrown, .long o_trace, .ref a_o_text, .int o_typed, .int o_next, .int o_token, .int o_place, .int o_value, .int o_fault, .ref a_o_need, .ref a_o_made, .ref a_o_skillTold, .ref a_o_placeTold, .ref a_o_skips, .ref a_o_wheelTold, .int o_trades, .int o_people, .int o_draftTrades, .int o_draftPeople, .int o_isShut, .ref a_o_tunes, .ref a_o_s, .ref a_o_spare, .ref a_o_kept, .ref a_o_isKept, .ref a_o_makes, .ref a_o_works, .ref a_o_order, .int o_falling])), (a_o_skips, .inl (cI, 12, .inl o_skips)), (a_o_s, .inl (cI, 105, .inl o_s')), (a_o_spare, .inl (cI, 105, .inl o_spare)), (a_o_works, .inl (cI, 6, .inl o_works))] → va_S A s.heap H locs → lv_has ls 6 [(0, .ref a_o), (1, .int l1')] → W p l e (headSpec wsX5_again rmX5_again).room s m args below meth c H locs 0 0 Q (F0 m 174 ls [])) → W p l e (headSpec wsX5_again rmX5_again).room s m args below meth c H locs 0 0 Q (F0 m 52 ls []) := by
  obtain ⟨hx, hb, hr, hml, hown, hts, hlocks, hA, hK, hN⟩ := id hg0
  have hF : CallFix p m c cX5_again 6 s args wsX5_again RX5 := ⟨hx, hb, hml, hown, hts⟩
  intro n
  induction n with
  | zero =>
    intro o_s l1 l2 o_s' l1' l2' hf
    have hf := fX5_again_52_0.symm.trans hf
    cases hf
  | succ n ih =>
    intro o_s l1 l2 o_s' l1' l2' hf H locs ls hP hD hS hl kx
    have hf := fX5_again_52_s.symm.trans hf
    refine lv_iload_n hx hb dX5_again_52 rfl (lv_at hl 2 rfl) ?_
    refine lv_bipush (v := (61 : Int32)) hx hb dX5_again_53 (by decide) ?_
    refine lv_icmp_ge (tgt := 174) hx hb dX5_again_55 (by decide) (fun c_1 => ?_) (fun c_1 => ?_)
    · have hf := pit hf c_1
      have q0 := Option.some.inj hf
      obtain ⟨e0, q1⟩ := Prod.mk.inj q0
      obtain ⟨e1, q2⟩ := Prod.mk.inj q1
      subst e0
      subst e1
      subst q2
      exact kx _ _ _ hP hD hS (lv_sub hl [0, 1] rfl)
    · have hf := pif hf c_1
      refine lv_iload_n hx hb dX5_again_58 rfl (lv_at hl 1 rfl) ?_
      refine lv_bipush (v := (-9 : Int32)) hx hb dX5_again_59 (by decide) ?_
      refine lv_icmp_ne (tgt := 174) hx hb dX5_again_61 (by decide) (fun c_2 => ?_) (fun c_2 => ?_)
      · have hf := pif hf c_2
        have q0 := Option.some.inj hf
        obtain ⟨e0, q1⟩ := Prod.mk.inj q0
        obtain ⟨e1, q2⟩ := Prod.mk.inj q1
        subst e0
        subst e1
        subst q2
        exact kx _ _ _ hP hD hS (lv_sub hl [0, 1] rfl)
      · have hf := pit hf c_2
        refine lv_iconst (v := (1 : Int32)) hx hb dX5_again_64 (by decide) ?_
        refine lv_istore_n (lv' := [(3, .int (1 : Int32)), (0, .ref a_o), (1, .int l1), (2, .int l2)]) hx hb dX5_again_65 rfl hl (by decide) rfl (fun ls hl => ?_)
        refine lv_iconst (v := (0 : Int32)) hx hb dX5_again_66 (by decide) ?_
        refine lv_istore (lv' := [(4, .int (0 : Int32)), (3, .int (1 : Int32)), (0, .ref a_o), (1, .int l1), (2, .int l2)]) hx hb dX5_again_67 hl (by decide) rfl (fun ls hl => ?_)
        obtain ⟨o_s_3, l3_4, l4_5, hc, hf⟩ := pb3 hf
        refine wX5_again_69 hg0 a_o a_o_text a_o_need a_o_made a_o_skillTold a_o_placeTold a_o_skips a_o_wheelTold a_o_tunes a_o_s a_o_spare a_o_kept a_o_isKept a_o_makes a_o_works a_o_order o_thrown o_trace o_typed o_next o_token o_place o_value o_fault o_trades o_people o_draftTrades o_draftPeople o_isShut o_falling o_skips o_spare o_works l2 N N o_s (1 : Int32) (0 : Int32) o_s_3 l3_4 l4_5 hc _ _ _ hP hD hS (lv_sub hl [2, 4, 1, 0] rfl) (fun H locs ls hP hD hS hl => ?_)
        refine lv_iload_n hx hb dX5_again_157 rfl (lv_at hl 2 rfl) ?_
        refine lv_if_eq (tgt := 165) hx hb dX5_again_158 (by decide) (fun c_6 => ?_) (fun c_6 => ?_)
        · have hf := pit hf c_6
          refine lv_bipush (v := (-9 : Int32)) hx hb dX5_again_165 (by decide) ?_
          refine lv_istore_n (lv' := [(1, .int (-9 : Int32)), (0, .ref a_o), (2, .int l2), (3, .int l3_4)]) hx hb dX5_again_167 rfl hl (by decide) rfl (fun ls hl => ?_)
          refine lv_iinc (v := (l2 + 1)) (lv' := [(2, .int (l2 + 1)), (1, .int (-9 : Int32)), (0, .ref a_o), (3, .int l3_4)]) hx hb dX5_again_168 hl (k := 2) rfl rfl (by decide) rfl (fun ls hl => ?_)
          refine lv_goto (tgt := 52) hx hb dX5_again_171 (by decide) ?_
          exact ih _ _ _ _ _ _ hf _ _ _ hP hD hS (lv_sub hl [2, 1, 0] rfl) kx
        · have hf := pif hf c_6
          refine lv_iload_n hx hb dX5_again_161 rfl (lv_at hl 1 rfl) ?_
          refine lv_goto (tgt := 167) hx hb dX5_again_162 (by decide) ?_
          refine lv_istore_n (lv' := [(1, .int l2), (0, .ref a_o), (2, .int l2), (3, .int l3_4)]) hx hb dX5_again_167 rfl hl (by decide) rfl (fun ls hl => ?_)
          refine lv_iinc (v := (l2 + 1)) (lv' := [(2, .int (l2 + 1)), (1, .int l2), (0, .ref a_o), (3, .int l3_4)]) hx hb dX5_again_168 hl (k := 2) rfl rfl (by decide) rfl (fun ls hl => ?_)
          refine lv_goto (tgt := 52) hx hb dX5_again_171 (by decide) ?_
          exact ih _ _ _ _ _ _ hf _ _ _ hP hD hS (lv_sub hl [2, 1, 0] rfl) kx
set_option maxHeartbeats 4000000 in
set_option maxRecDepth 100000 in
theorem kX5_again (l : Launch) (dC : Nat → ClassId) (dI : Nat → Nat → Nat) (Z : gZ) (cC cI cZ cW : ClassId) (a_o a_o_text a_o_need a_o_made a_o_skillTold a_o_placeTold a_o_skips a_o_wheelTold a_o_tunes a_o_s a_o_spare a_o_kept a_o_isKept a_o_makes a_o_works a_o_order : Nat) (sz : Nat) (o_thrown : Int32) (o_trace : Int64) (o_typed : Int32) (o_next : Int32) (o_token : Int32) (o_place : Int32) (o_value : Int32) (o_fault : Int32) (o_trades : Int32) (o_people : Int32) (o_draftTrades : Int32) (o_draftPeople : Int32) (o_isShut : Int32) (o_falling : Int32) (o_skips : Nat → Int32) (o_s : Nat → Int32) (o_spare : Nat → Int32) (o_works : Nat → Int32)  (N : Nat) (r' : Int32) (o_thrown' : Int32) (o_s' : Nat → Int32) (o_spare' : Nat → Int32) (o_works' : Nat → Int32) (hf : fX5_again N o_thrown o_trades o_people o_skips o_s o_spare o_works   = some (r', o_thrown', o_s', o_spare', o_works')) : Met l yX5_again wsX5_again rmX5_again (va_Pc [.ref a_o] (gB (dC, dI) Z [(cC, .char), (cI, .int), (cZ, .boolean), (cW, .object RX3)] [(a_o, .inr (5, [.int o_thrown, .long o_trace, .ref a_o_text, .int o_typed, .int o_next, .int o_token, .int o_place, .int o_value, .int o_fault, .ref a_o_need, .ref a_o_made, .ref a_o_skillTold, .ref a_o_placeTold, .ref a_o_skips, .ref a_o_wheelTold, .int o_trades, .int o_people, .int o_draftTrades, .int o_draftPeople, .int o_isShut, .ref a_o_tunes, .ref a_o_s, .ref a_o_spare, .ref a_o_kept, .ref a_o_isKept, .ref a_o_makes, .ref a_o_works, .ref a_o_order, .int o_falling])), (a_o_skips, .inl (cI, 12, .inl o_skips)), (a_o_s, .inl (cI, 105, .inl o_s)), (a_o_spare, .inl (cI, 105, .inl o_spare)), (a_o_works, .inl (cI, 6, .inl o_works))] sz)) (va_Qi (fun (r : Int32) (_ : Unit) => r = r') (gE (dC, dI) [(a_o, .inr (5, [.int o_thrown', .long o_trace, .ref a_o_text, .int o_typed, .int o_next, .int o_token, .int o_place, .int o_value, .int o_fault, .ref a_o_need, .ref a_o_made, .ref a_o_skillTold, .ref a_o_placeTold, .ref a_o_skips, .ref a_o_wheelTold, .int o_trades, .int o_people, .int o_draftTrades, .int o_draftPeople, .int o_isShut, .ref a_o_tunes, .ref a_o_s, .ref a_o_spare, .ref a_o_kept, .ref a_o_isKept, .ref a_o_makes, .ref a_o_works, .ref a_o_order, .int o_falling])), (a_o_skips, .inl (cI, 12, .inl o_skips)), (a_o_s, .inl (cI, 105, .inl o_s')), (a_o_spare, .inl (cI, 105, .inl o_spare')), (a_o_works, .inl (cI, 6, .inl o_works'))]) (va_A [(a_o, .inr (5, [.int o_thrown, .long o_trace, .ref a_o_text, .int o_typed, .int o_next, .int o_token, .int o_place, .int o_value, .int o_fault, .ref a_o_need, .ref a_o_made, .ref a_o_skillTold, .ref a_o_placeTold, .ref a_o_skips, .ref a_o_wheelTold, .int o_trades, .int o_people, .int o_draftTrades, .int o_draftPeople, .int o_isShut, .ref a_o_tunes, .ref a_o_s, .ref a_o_spare, .ref a_o_kept, .ref a_o_isKept, .ref a_o_makes, .ref a_o_works, .ref a_o_order, .int o_falling])), (a_o_skips, .inl (cI, 12, .inl o_skips)), (a_o_s, .inl (cI, 105, .inl o_s)), (a_o_spare, .inl (cI, 105, .inl o_spare)), (a_o_works, .inl (cI, 6, .inl o_works))] sz)) 0 0 (va_A [(a_o, .inr (5, [.int o_thrown, .long o_trace, .ref a_o_text, .int o_typed, .int o_next, .int o_token, .int o_place, .int o_value, .int o_fault, .ref a_o_need, .ref a_o_made, .ref a_o_skillTold, .ref a_o_placeTold, .ref a_o_skips, .ref a_o_wheelTold, .int o_trades, .int o_people, .int o_draftTrades, .int o_draftPeople, .int o_isShut, .ref a_o_tunes, .ref a_o_s, .ref a_o_spare, .ref a_o_kept, .ref a_o_isKept, .ref a_o_makes, .ref a_o_works, .ref a_o_order, .int o_falling])), (a_o_skips, .inl (cI, 12, .inl o_skips)), (a_o_s, .inl (cI, 105, .inl o_s)), (a_o_spare, .inl (cI, 105, .inl o_spare)), (a_o_works, .inl (cI, 6, .inl o_works))] sz) := by
  refine gMet (cc := cX5_again) (maxL := 6) (ret := (some .int)) (Qc := fun A => va_Qi (fun (r : Int32) (_ : Unit) => r = r') (gE (dC, dI) [(a_o, .inr (5, [.int o_thrown', .long o_trace, .ref a_o_text, .int o_typed, .int o_next, .int o_token, .int o_place, .int o_value, .int o_fault, .ref a_o_need, .ref a_o_made, .ref a_o_skillTold, .ref a_o_placeTold, .ref a_o_skips, .ref a_o_wheelTold, .int o_trades, .int o_people, .int o_draftTrades, .int o_draftPeople, .int o_isShut, .ref a_o_tunes, .ref a_o_s, .ref a_o_spare, .ref a_o_kept, .ref a_o_isKept, .ref a_o_makes, .ref a_o_works, .ref a_o_order, .int o_falling])), (a_o_skips, .inl (cI, 12, .inl o_skips)), (a_o_s, .inl (cI, 105, .inl o_s')), (a_o_spare, .inl (cI, 105, .inl o_spare')), (a_o_works, .inl (cI, 6, .inl o_works'))]) A) (by decide) rfl (Nat.le_of_ble_eq_true rfl) ?_
  intro p e s m below meth c A ls hg0 _ hsz hP hD hS hl
  have hg0 : gX p s m _ meth c cX5_again 6 (some .int) wsX5_again RX5 (dC, dI) Z [(cC, .char), (cI, .int), (cZ, .boolean), (cW, .object RX3)] A := hg0
  obtain ⟨hx, hb, hr, hml, hown, hts, hlocks, hA, hK, hN⟩ := id hg0
  subst hsz
  have hF : CallFix p m c cX5_again 6 s _ wsX5_again RX5 := ⟨hx, hb, hml, hown, hts⟩
  have hl : lv_has ls 6 [(0, .ref a_o)] := hl
  unfold fX5_again at hf
  refine lv_aload_n hx hb dX5_again_0 rfl (lv_at hl 0 rfl) ?_
  refine lv_iconst (v := (0 : Int32)) hx hb dX5_again_1 (by decide) ?_
  refine va_put (D := (dC, dI)) (ci := 5) (v := .int (0 : Int32)) (ty := .int) (C := RX5) (T := TX5) (N := 29) hx hb hts uX5_again_X5 tyX5 tyX5_ok nmX5 hown hK hP hD hS 0 rfl rfl 0 (by decide) (hts _ mX5_again_0) (fun _ h9 => h9) rfl (by decide +kernel) rfl rfl (Nat.le_of_ble_eq_true rfl) dX5_again_2 (fun H locs hP hD hS => ?_)
  have hP : va_P (dC, dI) vwCl [(a_o, .inr (5, [.int (0 : Int32), .long o_trace, .ref a_o_text, .int o_typed, .int o_next, .int o_token, .int o_place, .int o_value, .int o_fault, .ref a_o_need, .ref a_o_made, .ref a_o_skillTold, .ref a_o_placeTold, .ref a_o_skips, .ref a_o_wheelTold, .int o_trades, .int o_people, .int o_draftTrades, .int o_draftPeople, .int o_isShut, .ref a_o_tunes, .ref a_o_s, .ref a_o_spare, .ref a_o_kept, .ref a_o_isKept, .ref a_o_makes, .ref a_o_works, .ref a_o_order, .int o_falling])), (a_o_skips, .inl (cI, 12, .inl o_skips)), (a_o_s, .inl (cI, 105, .inl o_s)), (a_o_spare, .inl (cI, 105, .inl o_spare)), (a_o_works, .inl (cI, 6, .inl o_works))] H := hP
  have hD : va_D A [(a_o, .inr (5, [.int (0 : Int32), .long o_trace, .ref a_o_text, .int o_typed, .int o_next, .int o_token, .int o_place, .int o_value, .int o_fault, .ref a_o_need, .ref a_o_made, .ref a_o_skillTold, .ref a_o_placeTold, .ref a_o_skips, .ref a_o_wheelTold, .int o_trades, .int o_people, .int o_draftTrades, .int o_draftPeople, .int o_isShut, .ref a_o_tunes, .ref a_o_s, .ref a_o_spare, .ref a_o_kept, .ref a_o_isKept, .ref a_o_makes, .ref a_o_works, .ref a_o_order, .int o_falling])), (a_o_skips, .inl (cI, 12, .inl o_skips)), (a_o_s, .inl (cI, 105, .inl o_s)), (a_o_spare, .inl (cI, 105, .inl o_spare)), (a_o_works, .inl (cI, 6, .inl o_works))] := hD
  refine lv_aload_n hx hb dX5_again_5 rfl (lv_at hl 0 rfl) ?_
  refine va_get (D := (dC, dI)) (ci := 5) (v := .int o_trades) (C := RX5) (T := TX5) (N := 29) hx hb hts uX5_again_X5 hown hK hP 0 rfl rfl 15 (by decide) (hts _ mX5_again_1) (fun _ h9 => h9) rfl dX5_again_6 ?_
  refine lv_if_ne (tgt := 15) hx hb dX5_again_9 (by decide) (fun c_1 => ?_) (fun c_1 => ?_)
  · have hf := pif hf c_1
    refine lv_aload_n hx hb dX5_again_15 rfl (lv_at hl 0 rfl) ?_
    refine lv_iconst (v := (1 : Int32)) hx hb dX5_again_16 (by decide) ?_
    obtain ⟨o_s_2, o_spare_3, hc, hf⟩ := pb2 hf
    refine gCv (va_runV (As := [.int (1 : Int32)]) (rest := []) hF (kX5_aside l dC dI Z cC cI cZ cW a_o a_o_text a_o_need a_o_made a_o_skillTold a_o_placeTold a_o_skips a_o_wheelTold a_o_tunes a_o_s a_o_spare a_o_kept a_o_isKept a_o_makes a_o_works a_o_order _ (0 : Int32) o_trace o_typed o_next o_token o_place o_value o_fault o_trades o_people o_draftTrades o_draftPeople o_isShut o_falling o_s o_spare (1 : Int32) N o_s_2 o_spare_3 hc) (cwV 1 hts gX5_again_X5_aside rfl rfl rfl (by decide +kernel) ⟨Nat.le_of_ble_eq_true rfl, Nat.le_of_ble_eq_true rfl⟩) (gPV (wc := [(a_o, .inr (5, [.int (0 : Int32), .long o_trace, .ref a_o_text, .int o_typed, .int o_next, .int o_token, .int o_place, .int o_value, .int o_fault, .ref a_o_need, .ref a_o_made, .ref a_o_skillTold, .ref a_o_placeTold, .ref a_o_skips, .ref a_o_wheelTold, .int o_trades, .int o_people, .int o_draftTrades, .int o_draftPeople, .int o_isShut, .ref a_o_tunes, .ref a_o_s, .ref a_o_spare, .ref a_o_kept, .ref a_o_isKept, .ref a_o_makes, .ref a_o_works, .ref a_o_order, .int o_falling])), (a_o_s, .inl (cI, 105, .inl o_s)), (a_o_spare, .inl (cI, 105, .inl o_spare))]) hK hN hA hS hP hD [0, 2, 3] rfl rfl (q0 := 0) (ci := 5) rfl rfl rfl) rfl rfl hl.1 rfl (lv_room (Nat.le_of_ble_eq_true rfl)) dX5_again_17 ⟨Nat.zero_le _, Nat.zero_le _⟩) hP hD hS hA [0, 2, 3] rfl rfl rfl (fun H locs hP hD hS => ?_)
    have hP : va_P (dC, dI) vwCl [(a_o, .inr (5, [.int (0 : Int32), .long o_trace, .ref a_o_text, .int o_typed, .int o_next, .int o_token, .int o_place, .int o_value, .int o_fault, .ref a_o_need, .ref a_o_made, .ref a_o_skillTold, .ref a_o_placeTold, .ref a_o_skips, .ref a_o_wheelTold, .int o_trades, .int o_people, .int o_draftTrades, .int o_draftPeople, .int o_isShut, .ref a_o_tunes, .ref a_o_s, .ref a_o_spare, .ref a_o_kept, .ref a_o_isKept, .ref a_o_makes, .ref a_o_works, .ref a_o_order, .int o_falling])), (a_o_skips, .inl (cI, 12, .inl o_skips)), (a_o_s, .inl (cI, 105, .inl o_s_2)), (a_o_spare, .inl (cI, 105, .inl o_spare_3)), (a_o_works, .inl (cI, 6, .inl o_works))] H := hP
    have hD : va_D A [(a_o, .inr (5, [.int (0 : Int32), .long o_trace, .ref a_o_text, .int o_typed, .int o_next, .int o_token, .int o_place, .int o_value, .int o_fault, .ref a_o_need, .ref a_o_made, .ref a_o_skillTold, .ref a_o_placeTold, .ref a_o_skips, .ref a_o_wheelTold, .int o_trades, .int o_people, .int o_draftTrades, .int o_draftPeople, .int o_isShut, .ref a_o_tunes, .ref a_o_s, .ref a_o_spare, .ref a_o_kept, .ref a_o_isKept, .ref a_o_makes, .ref a_o_works, .ref a_o_order, .int o_falling])), (a_o_skips, .inl (cI, 12, .inl o_skips)), (a_o_s, .inl (cI, 105, .inl o_s_2)), (a_o_spare, .inl (cI, 105, .inl o_spare_3)), (a_o_works, .inl (cI, 6, .inl o_works))] := hD
    refine lv_iconst (v := (0 : Int32)) hx hb dX5_again_20 (by decide) ?_
    refine lv_istore_n (lv' := [(1, .int (0 : Int32)), (0, .ref a_o)]) hx hb dX5_again_21 rfl hl (by decide) rfl (fun ls hl => ?_)
    obtain ⟨o_works_4, l1_5, hc, hf⟩ := pb2 hf
    refine wX5_again_22 hg0 a_o a_o_text a_o_need a_o_made a_o_skillTold a_o_placeTold a_o_skips a_o_wheelTold a_o_tunes a_o_s a_o_spare a_o_kept a_o_isKept a_o_makes a_o_works a_o_order (0 : Int32) o_trace o_typed o_next o_token o_place o_value o_fault o_trades o_people o_draftTrades o_draftPeople o_isShut o_falling o_skips o_s_2 o_spare_3  N N o_works (0 : Int32) o_works_4 l1_5 hc _ _ _ hP hD hS (lv_sub hl [1, 0] rfl) (fun H locs ls hP hD hS hl => ?_)
    refine lv_bipush (v := (-9 : Int32)) hx hb dX5_again_47 (by decide) ?_
    refine lv_istore_n (lv' := [(1, .int (-9 : Int32)), (0, .ref a_o)]) hx hb dX5_again_49 rfl hl (by decide) rfl (fun ls hl => ?_)
    refine lv_iconst (v := (1 : Int32)) hx hb dX5_again_50 (by decide) ?_
    refine lv_istore_n (lv' := [(2, .int (1 : Int32)), (1, .int (-9 : Int32)), (0, .ref a_o)]) hx hb dX5_again_51 rfl hl (by decide) rfl (fun ls hl => ?_)
    obtain ⟨o_s_6, l1_7, l2_8, hc, hf⟩ := pb3 hf
    refine wX5_again_52 hg0 a_o a_o_text a_o_need a_o_made a_o_skillTold a_o_placeTold a_o_skips a_o_wheelTold a_o_tunes a_o_s a_o_spare a_o_kept a_o_isKept a_o_makes a_o_works a_o_order (0 : Int32) o_trace o_typed o_next o_token o_place o_value o_fault o_trades o_people o_draftTrades o_draftPeople o_isShut o_falling o_skips o_spare_3 o_works_4  N N o_s_2 (-9 : Int32) (1 : Int32) o_s_6 l1_7 l2_8 hc _ _ _ hP hD hS (lv_sub hl [2, 1, 0] rfl) (fun H locs ls hP hD hS hl => ?_)
    refine lv_aload_n hx hb dX5_again_174 rfl (lv_at hl 0 rfl) ?_
    refine lv_iconst (v := (0 : Int32)) hx hb dX5_again_175 (by decide) ?_
    obtain ⟨o_s_9, o_spare_10, hc, hf⟩ := pb2 hf
    refine gCv (va_runV (As := [.int (0 : Int32)]) (rest := []) hF (kX5_aside l dC dI Z cC cI cZ cW a_o a_o_text a_o_need a_o_made a_o_skillTold a_o_placeTold a_o_skips a_o_wheelTold a_o_tunes a_o_s a_o_spare a_o_kept a_o_isKept a_o_makes a_o_works a_o_order _ (0 : Int32) o_trace o_typed o_next o_token o_place o_value o_fault o_trades o_people o_draftTrades o_draftPeople o_isShut o_falling o_s_6 o_spare_3 (0 : Int32) N o_s_9 o_spare_10 hc) (cwV 1 hts gX5_again_X5_aside rfl rfl rfl (by decide +kernel) ⟨Nat.le_of_ble_eq_true rfl, Nat.le_of_ble_eq_true rfl⟩) (gPV (wc := [(a_o, .inr (5, [.int (0 : Int32), .long o_trace, .ref a_o_text, .int o_typed, .int o_next, .int o_token, .int o_place, .int o_value, .int o_fault, .ref a_o_need, .ref a_o_made, .ref a_o_skillTold, .ref a_o_placeTold, .ref a_o_skips, .ref a_o_wheelTold, .int o_trades, .int o_people, .int o_draftTrades, .int o_draftPeople, .int o_isShut, .ref a_o_tunes, .ref a_o_s, .ref a_o_spare, .ref a_o_kept, .ref a_o_isKept, .ref a_o_makes, .ref a_o_works, .ref a_o_order, .int o_falling])), (a_o_s, .inl (cI, 105, .inl o_s_6)), (a_o_spare, .inl (cI, 105, .inl o_spare_3))]) hK hN hA hS hP hD [0, 2, 3] rfl rfl (q0 := 0) (ci := 5) rfl rfl rfl) rfl rfl hl.1 rfl (lv_room (Nat.le_of_ble_eq_true rfl)) dX5_again_176 ⟨Nat.zero_le _, Nat.zero_le _⟩) hP hD hS hA [0, 2, 3] rfl rfl rfl (fun H locs hP hD hS => ?_)
    have hP : va_P (dC, dI) vwCl [(a_o, .inr (5, [.int (0 : Int32), .long o_trace, .ref a_o_text, .int o_typed, .int o_next, .int o_token, .int o_place, .int o_value, .int o_fault, .ref a_o_need, .ref a_o_made, .ref a_o_skillTold, .ref a_o_placeTold, .ref a_o_skips, .ref a_o_wheelTold, .int o_trades, .int o_people, .int o_draftTrades, .int o_draftPeople, .int o_isShut, .ref a_o_tunes, .ref a_o_s, .ref a_o_spare, .ref a_o_kept, .ref a_o_isKept, .ref a_o_makes, .ref a_o_works, .ref a_o_order, .int o_falling])), (a_o_skips, .inl (cI, 12, .inl o_skips)), (a_o_s, .inl (cI, 105, .inl o_s_9)), (a_o_spare, .inl (cI, 105, .inl o_spare_10)), (a_o_works, .inl (cI, 6, .inl o_works_4))] H := hP
    have hD : va_D A [(a_o, .inr (5, [.int (0 : Int32), .long o_trace, .ref a_o_text, .int o_typed, .int o_next, .int o_token, .int o_place, .int o_value, .int o_fault, .ref a_o_need, .ref a_o_made, .ref a_o_skillTold, .ref a_o_placeTold, .ref a_o_skips, .ref a_o_wheelTold, .int o_trades, .int o_people, .int o_draftTrades, .int o_draftPeople, .int o_isShut, .ref a_o_tunes, .ref a_o_s, .ref a_o_spare, .ref a_o_kept, .ref a_o_isKept, .ref a_o_makes, .ref a_o_works, .ref a_o_order, .int o_falling])), (a_o_skips, .inl (cI, 12, .inl o_skips)), (a_o_s, .inl (cI, 105, .inl o_s_9)), (a_o_spare, .inl (cI, 105, .inl o_spare_10)), (a_o_works, .inl (cI, 6, .inl o_works_4))] := hD
    refine lv_iload_n hx hb dX5_again_179 rfl (lv_at hl 1 rfl) ?_
    have q0 := Option.some.inj hf
    obtain ⟨e0, q1⟩ := Prod.mk.inj q0
    obtain ⟨e1, q2⟩ := Prod.mk.inj q1
    obtain ⟨e2, q3⟩ := Prod.mk.inj q2
    obtain ⟨e3, q4⟩ := Prod.mk.inj q3
    subst e0
    subst e1
    subst e2
    subst e3
    subst q4
    exact gRi hx hb hr hlocks hP hS dX5_again_180
  · have hf := pit hf c_1
    refine lv_bipush (v := (-2 : Int32)) hx hb dX5_again_12 (by decide) ?_
    have q0 := Option.some.inj hf
    obtain ⟨e0, q1⟩ := Prod.mk.inj q0
    obtain ⟨e1, q2⟩ := Prod.mk.inj q1
    obtain ⟨e2, q3⟩ := Prod.mk.inj q2
    obtain ⟨e3, q4⟩ := Prod.mk.inj q3
    subst e0
    subst e1
    subst e2
    subst e3
    subst q4
    exact gRi hx hb hr hlocks hP hS dX5_again_14
abbrev rmX5_keep : Room := { frames := 1, cells := 0, slots := 0, locals := 22 }
set_option maxRecDepth 20000 in
theorem uX5_keep_X5 : ∀ w ∈ wsX50, w ∈ wsX5_keep := by decide +kernel
set_option maxRecDepth 20000 in
theorem mX5_keep_0 : (Cond.fieldLink RX5 59 "TradeWheelModel" "thrown" "I" : Cond) ∈ wsX5_keep := by decide +kernel
set_option maxRecDepth 20000 in
theorem mX5_keep_1 : (Cond.fieldLink RX5 40 "TradeWheelModel" "kept" "[I" : Cond) ∈ wsX5_keep := by decide +kernel
set_option maxRecDepth 20000 in
theorem mX5_keep_2 : (Cond.fieldLink RX5 34 "TradeWheelModel" "s" "[I" : Cond) ∈ wsX5_keep := by decide +kernel
set_option maxRecDepth 20000 in
theorem mX5_keep_3 : (Cond.fieldLink RX5 43 "TradeWheelModel" "isKept" "[Z" : Cond) ∈ wsX5_keep := by decide +kernel
set_option maxHeartbeats 4000000 in
set_option maxRecDepth 100000 in
theorem wX5_keep_18 {p : Program} {l : Launch} {e : Env} {s : State} {m : MethodId} {args : Array Value} {below : List Frame} {meth : Method} {c : Code} {Q : State → Prop} {A : Nat → Prop} {dC : Nat → ClassId} {dI : Nat → Nat → Nat} {Z : gZ} {cC cI cZ cW : ClassId} (hg0 : gX p s m args meth c cX5_keep 3 (some .int) wsX5_keep RX5 (dC, dI) Z [(cC, .char), (cI, .int), (cZ, .boolean), (cW, .object RX3)] A) (a_o a_o_text a_o_need a_o_made a_o_skillTold a_o_placeTold a_o_skips a_o_wheelTold a_o_tunes a_o_s a_o_spare a_o_kept a_o_isKept a_o_makes a_o_works a_o_order : Nat) (o_thrown : Int32) (o_trace : Int64) (o_typed : Int32) (o_next : Int32) (o_token : Int32) (o_place : Int32) (o_value : Int32) (o_fault : Int32) (o_trades : Int32) (o_people : Int32) (o_draftTrades : Int32) (o_draftPeople : Int32) (o_isShut : Int32) (o_falling : Int32) (o_s : Nat → Int32) (o_isKept : Nat → Int32) (l1 : Int32) (N : Nat) : ∀ (n : Nat) (o_kept : Nat → Int32) (l2 : Int32) (o_kept' : Nat → Int32) (l2' : Int32), fX5_keep_18 N o_s l1 n o_kept l2 = some (o_kept', l2') → ∀ (H : Heap) (locs : List Loc) (ls : Array Slot), va_P (dC, dI) vwCl [(a_o, .inr (5, [.int o_thrown, .long o_trace, .ref a_o_text, .int o_typed, .int o_next, .int o_token, .int o_place, .int o_value, .int o_fault, .ref a_o_need, .ref a_o_made, .ref a_o_skillTold, .ref a_o_placeTold, .ref a_o_skips, .ref a_o_wheelTold, .int o_trades, .int o_people, .int o_draftTrades, .int o_draftPeople, .int o_isShut, .ref a_o_tunes, .ref a_o_s, .ref a_o_spare, .ref a_o_kept, .ref a_o_isKept, .ref a_o_makes, .ref a_o_works, .ref a_o_order, .int o_falling])), (a_o_s, .inl (cI, 105, .inl o_s)), (a_o_kept, .inl (cI, 210, .inl o_kept)), (a_o_isKept, .inl (cZ, 2, .inl o_isKept))] H → va_D A [(a_o, .inr (5, [.int o_thrown, .long o_trace, .ref a_o_text, .int o_typed, .int o_next, .int o_token, .int o_place, .int o_value, .int o_fault, .ref a_o_need, .ref a_o_made, .ref a_o_skillTold, .ref a_o_placeTold, .ref a_o_skips, .ref a_o_wheelTold, .int o_trades, .int o_people, .int o_draftTrades, .int o_draftPeople, .int o_isShut, .ref a_o_tunes, .ref a_o_s, .ref a_o_spare, .ref a_o_kept, .ref a_o_isKept, .ref a_o_makes, .ref a_o_works, .ref a_o_order, .int o_falling])), (a_o_s, .inl (cI, 105, .inl o_s)), (a_o_kept, .inl (cI, 210, .inl o_kept)), (a_o_isKept, .inl (cZ, 2, .inl o_isKept))] → va_S A s.heap H locs → lv_has ls 3 [(0, .ref a_o), (1, .int l1), (2, .int l2)] → (∀ (H : Heap) (locs : List Loc) (ls : Array Slot), va_P (dC, dI) vwCl [(a_o, .inr (5, [.int o_thrown, .long o_trace, .ref a_o_text, .int o_typed, .int o_next, .int o_token, .int o_place, .int o_value, .int o_fault, .ref a_o_need, .ref a_o_made, .ref a_o_skillTold, .ref a_o_placeTold, .ref a_o_skips, .ref a_o_wheelTold, .int o_trades, .int o_people, .int o_draftTrades, .int o_draftPeople, .int o_isShut, .ref a_o_tunes, .ref a_o_s, .ref a_o_spare, .ref a_o_kept, .ref a_o_isKept, .ref a_o_makes, .ref a_o_works, .ref a_o_order, .int o_falling])), (a_o_s, .inl (cI, 105, .inl o_s)), (a_o_kept, .inl (cI, 210, .inl o_kept')), (a_o_isKept, .inl (cZ, 2, .inl o_isKept))] H → va_D A [(a_o, .inr (5, [.int o_thrown, .long o_trace, .ref a_o_text, .int o_typed, .int o_next, .int o_token, .int o_place, .int o_value, .int o_fault, .ref a_o_need, .ref a_o_made, .ref a_o_skillTold, .ref a_o_placeTold, .ref a_o_skips, .ref a_o_wheelTold, .int o_trades, .int o_people, .int o_draftTrades, .int o_draftPeople, .int o_isShut, .ref a_o_tunes, .ref a_o_s, .ref a_o_spare, .ref a_o_kept, .ref a_o_isKept, .ref a_o_makes, .ref a_o_works, .ref a_o_order, .int o_falling])), (a_o_s, .inl (cI, 105, .inl o_s)), (a_o_kept, .inl (cI, 210, .inl o_kept')), (a_o_isKept, .inl (cZ, 2, .inl o_isKept))] → va_S A s.heap H locs → lv_has ls 3 [(0, .ref a_o), (1, .int l1)] → W p l e (headSpec wsX5_keep rmX5_keep).room s m args below meth c H locs 0 0 Q (F0 m 47 ls [])) → W p l e (headSpec wsX5_keep rmX5_keep).room s m args below meth c H locs 0 0 Q (F0 m 18 ls []) := by
  obtain ⟨hx, hb, hr, hml, hown, hts, hlocks, hA, hK, hN⟩ := id hg0
  have hF : CallFix p m c cX5_keep 3 s args wsX5_keep RX5 := ⟨hx, hb, hml, hown, hts⟩
  intro n
  induction n with
  | zero =>
    intro o_kept l2 o_kept' l2' hf
    have hf := fX5_keep_18_0.symm.trans hf
    cases hf
  | succ n ih =>
    intro o_kept l2 o_kept' l2' hf H locs ls hP hD hS hl kx
    have hf := fX5_keep_18_s.symm.trans hf
    refine lv_iload_n hx hb dX5_keep_18 rfl (lv_at hl 2 rfl) ?_
    refine lv_bipush (v := (105 : Int32)) hx hb dX5_keep_19 (by decide) ?_
    refine lv_icmp_ge (tgt := 47) hx hb dX5_keep_21 (by decide) (fun c_1 => ?_) (fun c_1 => ?_)
    · have hf := pit hf c_1
      have q0 := Option.some.inj hf
      obtain ⟨e0, q1⟩ := Prod.mk.inj q0
      subst e0
      subst q1
      exact kx _ _ _ hP hD hS (lv_sub hl [0, 1] rfl)
    · have hf := pif hf c_1
      refine lv_aload_n hx hb dX5_keep_24 rfl (lv_at hl 0 rfl) ?_
      refine va_get (D := (dC, dI)) (ci := 5) (v := .ref a_o_kept) (C := RX5) (T := TX5) (N := 29) hx hb hts uX5_keep_X5 hown hK hP 0 rfl rfl 23 (by decide) (hts _ mX5_keep_1) (fun _ h9 => h9) rfl dX5_keep_25 ?_
      refine lv_bipush (v := (105 : Int32)) hx hb dX5_keep_28 (by decide) ?_
      refine lv_iload_n hx hb dX5_keep_30 rfl (lv_at hl 1 rfl) ?_
      refine lv_imul hx hb dX5_keep_31 ?_
      refine lv_iload_n hx hb dX5_keep_32 rfl (lv_at hl 2 rfl) ?_
      refine lv_iadd hx hb dX5_keep_33 ?_
      refine lv_aload_n hx hb dX5_keep_34 rfl (lv_at hl 0 rfl) ?_
      refine va_get (D := (dC, dI)) (ci := 5) (v := .ref a_o_s) (C := RX5) (T := TX5) (N := 29) hx hb hts uX5_keep_X5 hown hK hP 0 rfl rfl 21 (by decide) (hts _ mX5_keep_2) (fun _ h9 => h9) rfl dX5_keep_35 ?_
      refine lv_iload_n hx hb dX5_keep_38 rfl (lv_at hl 2 rfl) ?_
      obtain ⟨h_2, hf⟩ := pgd hf
      refine va_iald hx hb hK hP 1 1 rfl rfl h_2 dX5_keep_39 ?_
      obtain ⟨h_3, hf⟩ := pgd hf
      refine va_iast hx hb hK hP hD hS 2 1 rfl rfl h_3 dX5_keep_40 (fun H locs hP hD hS => ?_)
      have hP : va_P (dC, dI) vwCl [(a_o, .inr (5, [.int o_thrown, .long o_trace, .ref a_o_text, .int o_typed, .int o_next, .int o_token, .int o_place, .int o_value, .int o_fault, .ref a_o_need, .ref a_o_made, .ref a_o_skillTold, .ref a_o_placeTold, .ref a_o_skips, .ref a_o_wheelTold, .int o_trades, .int o_people, .int o_draftTrades, .int o_draftPeople, .int o_isShut, .ref a_o_tunes, .ref a_o_s, .ref a_o_spare, .ref a_o_kept, .ref a_o_isKept, .ref a_o_makes, .ref a_o_works, .ref a_o_order, .int o_falling])), (a_o_s, .inl (cI, 105, .inl o_s)), (a_o_kept, .inl (cI, 210, .inl (upd o_kept (((105 : Int32) * l1) + l2).toNatClampNeg (o_s l2.toNatClampNeg)))), (a_o_isKept, .inl (cZ, 2, .inl o_isKept))] H := hP
      have hD : va_D A [(a_o, .inr (5, [.int o_thrown, .long o_trace, .ref a_o_text, .int o_typed, .int o_next, .int o_token, .int o_place, .int o_value, .int o_fault, .ref a_o_need, .ref a_o_made, .ref a_o_skillTold, .ref a_o_placeTold, .ref a_o_skips, .ref a_o_wheelTold, .int o_trades, .int o_people, .int o_draftTrades, .int o_draftPeople, .int o_isShut, .ref a_o_tunes, .ref a_o_s, .ref a_o_spare, .ref a_o_kept, .ref a_o_isKept, .ref a_o_makes, .ref a_o_works, .ref a_o_order, .int o_falling])), (a_o_s, .inl (cI, 105, .inl o_s)), (a_o_kept, .inl (cI, 210, .inl (upd o_kept (((105 : Int32) * l1) + l2).toNatClampNeg (o_s l2.toNatClampNeg)))), (a_o_isKept, .inl (cZ, 2, .inl o_isKept))] := hD
      refine lv_iinc (v := (l2 + 1)) (lv' := [(2, .int (l2 + 1)), (0, .ref a_o), (1, .int l1)]) hx hb dX5_keep_41 hl (k := 2) rfl rfl (by decide) rfl (fun ls hl => ?_)
      refine lv_goto (tgt := 18) hx hb dX5_keep_44 (by decide) ?_
      exact ih _ _ _ _ hf _ _ _ hP hD hS (lv_sub hl [1, 2, 0] rfl) kx
set_option maxHeartbeats 4000000 in
set_option maxRecDepth 100000 in
theorem kX5_keep (l : Launch) (dC : Nat → ClassId) (dI : Nat → Nat → Nat) (Z : gZ) (cC cI cZ cW : ClassId) (a_o a_o_text a_o_need a_o_made a_o_skillTold a_o_placeTold a_o_skips a_o_wheelTold a_o_tunes a_o_s a_o_spare a_o_kept a_o_isKept a_o_makes a_o_works a_o_order : Nat) (sz : Nat) (o_thrown : Int32) (o_trace : Int64) (o_typed : Int32) (o_next : Int32) (o_token : Int32) (o_place : Int32) (o_value : Int32) (o_fault : Int32) (o_trades : Int32) (o_people : Int32) (o_draftTrades : Int32) (o_draftPeople : Int32) (o_isShut : Int32) (o_falling : Int32) (o_s : Nat → Int32) (o_kept : Nat → Int32) (o_isKept : Nat → Int32) (i1 : Int32) (N : Nat) (r' : Int32) (o_thrown' : Int32) (o_kept' : Nat → Int32) (o_isKept' : Nat → Int32) (hf : fX5_keep N o_thrown o_s o_kept o_isKept  i1 = some (r', o_thrown', o_kept', o_isKept')) : Met l yX5_keep wsX5_keep rmX5_keep (va_Pc [.ref a_o, .int i1] (gB (dC, dI) Z [(cC, .char), (cI, .int), (cZ, .boolean), (cW, .object RX3)] [(a_o, .inr (5, [.int o_thrown, .long o_trace, .ref a_o_text, .int o_typed, .int o_next, .int o_token, .int o_place, .int o_value, .int o_fault, .ref a_o_need, .ref a_o_made, .ref a_o_skillTold, .ref a_o_placeTold, .ref a_o_skips, .ref a_o_wheelTold, .int o_trades, .int o_people, .int o_draftTrades, .int o_draftPeople, .int o_isShut, .ref a_o_tunes, .ref a_o_s, .ref a_o_spare, .ref a_o_kept, .ref a_o_isKept, .ref a_o_makes, .ref a_o_works, .ref a_o_order, .int o_falling])), (a_o_s, .inl (cI, 105, .inl o_s)), (a_o_kept, .inl (cI, 210, .inl o_kept)), (a_o_isKept, .inl (cZ, 2, .inl o_isKept))] sz)) (va_Qi (fun (r : Int32) (_ : Unit) => r = r') (gE (dC, dI) [(a_o, .inr (5, [.int o_thrown', .long o_trace, .ref a_o_text, .int o_typed, .int o_next, .int o_token, .int o_place, .int o_value, .int o_fault, .ref a_o_need, .ref a_o_made, .ref a_o_skillTold, .ref a_o_placeTold, .ref a_o_skips, .ref a_o_wheelTold, .int o_trades, .int o_people, .int o_draftTrades, .int o_draftPeople, .int o_isShut, .ref a_o_tunes, .ref a_o_s, .ref a_o_spare, .ref a_o_kept, .ref a_o_isKept, .ref a_o_makes, .ref a_o_works, .ref a_o_order, .int o_falling])), (a_o_s, .inl (cI, 105, .inl o_s)), (a_o_kept, .inl (cI, 210, .inl o_kept')), (a_o_isKept, .inl (cZ, 2, .inl o_isKept'))]) (va_A [(a_o, .inr (5, [.int o_thrown, .long o_trace, .ref a_o_text, .int o_typed, .int o_next, .int o_token, .int o_place, .int o_value, .int o_fault, .ref a_o_need, .ref a_o_made, .ref a_o_skillTold, .ref a_o_placeTold, .ref a_o_skips, .ref a_o_wheelTold, .int o_trades, .int o_people, .int o_draftTrades, .int o_draftPeople, .int o_isShut, .ref a_o_tunes, .ref a_o_s, .ref a_o_spare, .ref a_o_kept, .ref a_o_isKept, .ref a_o_makes, .ref a_o_works, .ref a_o_order, .int o_falling])), (a_o_s, .inl (cI, 105, .inl o_s)), (a_o_kept, .inl (cI, 210, .inl o_kept)), (a_o_isKept, .inl (cZ, 2, .inl o_isKept))] sz)) 0 0 (va_A [(a_o, .inr (5, [.int o_thrown, .long o_trace, .ref a_o_text, .int o_typed, .int o_next, .int o_token, .int o_place, .int o_value, .int o_fault, .ref a_o_need, .ref a_o_made, .ref a_o_skillTold, .ref a_o_placeTold, .ref a_o_skips, .ref a_o_wheelTold, .int o_trades, .int o_people, .int o_draftTrades, .int o_draftPeople, .int o_isShut, .ref a_o_tunes, .ref a_o_s, .ref a_o_spare, .ref a_o_kept, .ref a_o_isKept, .ref a_o_makes, .ref a_o_works, .ref a_o_order, .int o_falling])), (a_o_s, .inl (cI, 105, .inl o_s)), (a_o_kept, .inl (cI, 210, .inl o_kept)), (a_o_isKept, .inl (cZ, 2, .inl o_isKept))] sz) := by
  refine gMet (cc := cX5_keep) (maxL := 3) (ret := (some .int)) (Qc := fun A => va_Qi (fun (r : Int32) (_ : Unit) => r = r') (gE (dC, dI) [(a_o, .inr (5, [.int o_thrown', .long o_trace, .ref a_o_text, .int o_typed, .int o_next, .int o_token, .int o_place, .int o_value, .int o_fault, .ref a_o_need, .ref a_o_made, .ref a_o_skillTold, .ref a_o_placeTold, .ref a_o_skips, .ref a_o_wheelTold, .int o_trades, .int o_people, .int o_draftTrades, .int o_draftPeople, .int o_isShut, .ref a_o_tunes, .ref a_o_s, .ref a_o_spare, .ref a_o_kept, .ref a_o_isKept, .ref a_o_makes, .ref a_o_works, .ref a_o_order, .int o_falling])), (a_o_s, .inl (cI, 105, .inl o_s)), (a_o_kept, .inl (cI, 210, .inl o_kept')), (a_o_isKept, .inl (cZ, 2, .inl o_isKept'))]) A) (by decide) rfl (Nat.le_of_ble_eq_true rfl) ?_
  intro p e s m below meth c A ls hg0 _ hsz hP hD hS hl
  have hg0 : gX p s m _ meth c cX5_keep 3 (some .int) wsX5_keep RX5 (dC, dI) Z [(cC, .char), (cI, .int), (cZ, .boolean), (cW, .object RX3)] A := hg0
  obtain ⟨hx, hb, hr, hml, hown, hts, hlocks, hA, hK, hN⟩ := id hg0
  subst hsz
  have hF : CallFix p m c cX5_keep 3 s _ wsX5_keep RX5 := ⟨hx, hb, hml, hown, hts⟩
  have hl : lv_has ls 3 [(0, .ref a_o), (1, .int i1)] := hl
  unfold fX5_keep at hf
  refine lv_aload_n hx hb dX5_keep_0 rfl (lv_at hl 0 rfl) ?_
  refine lv_iconst (v := (0 : Int32)) hx hb dX5_keep_1 (by decide) ?_
  refine va_put (D := (dC, dI)) (ci := 5) (v := .int (0 : Int32)) (ty := .int) (C := RX5) (T := TX5) (N := 29) hx hb hts uX5_keep_X5 tyX5 tyX5_ok nmX5 hown hK hP hD hS 0 rfl rfl 0 (by decide) (hts _ mX5_keep_0) (fun _ h9 => h9) rfl (by decide +kernel) rfl rfl (Nat.le_of_ble_eq_true rfl) dX5_keep_2 (fun H locs hP hD hS => ?_)
  have hP : va_P (dC, dI) vwCl [(a_o, .inr (5, [.int (0 : Int32), .long o_trace, .ref a_o_text, .int o_typed, .int o_next, .int o_token, .int o_place, .int o_value, .int o_fault, .ref a_o_need, .ref a_o_made, .ref a_o_skillTold, .ref a_o_placeTold, .ref a_o_skips, .ref a_o_wheelTold, .int o_trades, .int o_people, .int o_draftTrades, .int o_draftPeople, .int o_isShut, .ref a_o_tunes, .ref a_o_s, .ref a_o_spare, .ref a_o_kept, .ref a_o_isKept, .ref a_o_makes, .ref a_o_works, .ref a_o_order, .int o_falling])), (a_o_s, .inl (cI, 105, .inl o_s)), (a_o_kept, .inl (cI, 210, .inl o_kept)), (a_o_isKept, .inl (cZ, 2, .inl o_isKept))] H := hP
  have hD : va_D A [(a_o, .inr (5, [.int (0 : Int32), .long o_trace, .ref a_o_text, .int o_typed, .int o_next, .int o_token, .int o_place, .int o_value, .int o_fault, .ref a_o_need, .ref a_o_made, .ref a_o_skillTold, .ref a_o_placeTold, .ref a_o_skips, .ref a_o_wheelTold, .int o_trades, .int o_people, .int o_draftTrades, .int o_draftPeople, .int o_isShut, .ref a_o_tunes, .ref a_o_s, .ref a_o_spare, .ref a_o_kept, .ref a_o_isKept, .ref a_o_makes, .ref a_o_works, .ref a_o_order, .int o_falling])), (a_o_s, .inl (cI, 105, .inl o_s)), (a_o_kept, .inl (cI, 210, .inl o_kept)), (a_o_isKept, .inl (cZ, 2, .inl o_isKept))] := hD
  refine lv_iload_n hx hb dX5_keep_5 rfl (lv_at hl 1 rfl) ?_
  refine lv_iconst (v := (0 : Int32)) hx hb dX5_keep_6 (by decide) ?_
  refine lv_iconst (v := (1 : Int32)) hx hb dX5_keep_7 (by decide) ?_
  obtain ⟨r_1, hc, hf⟩ := pb1 hf
  refine gCi (va_runS (As := [.int i1, .int (0 : Int32), .int (1 : Int32)]) (rest := []) hF (kX5_in l dC dI Z cC cI cZ cW  _  i1 (0 : Int32) (1 : Int32) N r_1 hc) (cwS 3 hts gX5_keep_X5_in rfl rfl rfl (by decide +kernel) ⟨Nat.le_of_ble_eq_true rfl, Nat.le_of_ble_eq_true rfl⟩) (gPS (wc := []) hK hN hA hS hP hD [] rfl rfl) rfl rfl hl.1 rfl (lv_room (Nat.le_of_ble_eq_true rfl)) dX5_keep_8 ⟨Nat.zero_le _, Nat.zero_le _⟩) hP hD hS hA [] rfl rfl rfl (fun H locs hP hD hS => ?_)
  have hP : va_P (dC, dI) vwCl [(a_o, .inr (5, [.int (0 : Int32), .long o_trace, .ref a_o_text, .int o_typed, .int o_next, .int o_token, .int o_place, .int o_value, .int o_fault, .ref a_o_need, .ref a_o_made, .ref a_o_skillTold, .ref a_o_placeTold, .ref a_o_skips, .ref a_o_wheelTold, .int o_trades, .int o_people, .int o_draftTrades, .int o_draftPeople, .int o_isShut, .ref a_o_tunes, .ref a_o_s, .ref a_o_spare, .ref a_o_kept, .ref a_o_isKept, .ref a_o_makes, .ref a_o_works, .ref a_o_order, .int o_falling])), (a_o_s, .inl (cI, 105, .inl o_s)), (a_o_kept, .inl (cI, 210, .inl o_kept)), (a_o_isKept, .inl (cZ, 2, .inl o_isKept))] H := hP
  have hD : va_D A [(a_o, .inr (5, [.int (0 : Int32), .long o_trace, .ref a_o_text, .int o_typed, .int o_next, .int o_token, .int o_place, .int o_value, .int o_fault, .ref a_o_need, .ref a_o_made, .ref a_o_skillTold, .ref a_o_placeTold, .ref a_o_skips, .ref a_o_wheelTold, .int o_trades, .int o_people, .int o_draftTrades, .int o_draftPeople, .int o_isShut, .ref a_o_tunes, .ref a_o_s, .ref a_o_spare, .ref a_o_kept, .ref a_o_isKept, .ref a_o_makes, .ref a_o_works, .ref a_o_order, .int o_falling])), (a_o_s, .inl (cI, 105, .inl o_s)), (a_o_kept, .inl (cI, 210, .inl o_kept)), (a_o_isKept, .inl (cZ, 2, .inl o_isKept))] := hD
  refine lv_if_ne (tgt := 16) hx hb dX5_keep_11 (by decide) (fun c_2 => ?_) (fun c_2 => ?_)
  · have hf := pif hf c_2
    refine lv_iconst (v := (0 : Int32)) hx hb dX5_keep_16 (by decide) ?_
    refine lv_istore_n (lv' := [(2, .int (0 : Int32)), (0, .ref a_o), (1, .int i1)]) hx hb dX5_keep_17 rfl hl (by decide) rfl (fun ls hl => ?_)
    obtain ⟨o_kept_3, l2_4, hc, hf⟩ := pb2 hf
    refine wX5_keep_18 hg0 a_o a_o_text a_o_need a_o_made a_o_skillTold a_o_placeTold a_o_skips a_o_wheelTold a_o_tunes a_o_s a_o_spare a_o_kept a_o_isKept a_o_makes a_o_works a_o_order (0 : Int32) o_trace o_typed o_next o_token o_place o_value o_fault o_trades o_people o_draftTrades o_draftPeople o_isShut o_falling o_s o_isKept i1 N N o_kept (0 : Int32) o_kept_3 l2_4 hc _ _ _ hP hD hS (lv_sub hl [1, 2, 0] rfl) (fun H locs ls hP hD hS hl => ?_)
    refine lv_aload_n hx hb dX5_keep_47 rfl (lv_at hl 0 rfl) ?_
    refine va_get (D := (dC, dI)) (ci := 5) (v := .ref a_o_isKept) (C := RX5) (T := TX5) (N := 29) hx hb hts uX5_keep_X5 hown hK hP 0 rfl rfl 24 (by decide) (hts _ mX5_keep_3) (fun _ h9 => h9) rfl dX5_keep_48 ?_
    refine lv_iload_n hx hb dX5_keep_51 rfl (lv_at hl 1 rfl) ?_
    refine lv_iconst (v := (1 : Int32)) hx hb dX5_keep_52 (by decide) ?_
    obtain ⟨h_5, hf⟩ := pgd hf
    refine va_zast hx hb hK hP hD hS 3 2 rfl rfl h_5 dX5_keep_53 (fun H locs hP hD hS => ?_)
    have hP : va_P (dC, dI) vwCl [(a_o, .inr (5, [.int (0 : Int32), .long o_trace, .ref a_o_text, .int o_typed, .int o_next, .int o_token, .int o_place, .int o_value, .int o_fault, .ref a_o_need, .ref a_o_made, .ref a_o_skillTold, .ref a_o_placeTold, .ref a_o_skips, .ref a_o_wheelTold, .int o_trades, .int o_people, .int o_draftTrades, .int o_draftPeople, .int o_isShut, .ref a_o_tunes, .ref a_o_s, .ref a_o_spare, .ref a_o_kept, .ref a_o_isKept, .ref a_o_makes, .ref a_o_works, .ref a_o_order, .int o_falling])), (a_o_s, .inl (cI, 105, .inl o_s)), (a_o_kept, .inl (cI, 210, .inl o_kept_3)), (a_o_isKept, .inl (cZ, 2, .inl (upd o_isKept i1.toNatClampNeg (vp_nar .boolean (1 : Int32)))))] H := hP
    have hD : va_D A [(a_o, .inr (5, [.int (0 : Int32), .long o_trace, .ref a_o_text, .int o_typed, .int o_next, .int o_token, .int o_place, .int o_value, .int o_fault, .ref a_o_need, .ref a_o_made, .ref a_o_skillTold, .ref a_o_placeTold, .ref a_o_skips, .ref a_o_wheelTold, .int o_trades, .int o_people, .int o_draftTrades, .int o_draftPeople, .int o_isShut, .ref a_o_tunes, .ref a_o_s, .ref a_o_spare, .ref a_o_kept, .ref a_o_isKept, .ref a_o_makes, .ref a_o_works, .ref a_o_order, .int o_falling])), (a_o_s, .inl (cI, 105, .inl o_s)), (a_o_kept, .inl (cI, 210, .inl o_kept_3)), (a_o_isKept, .inl (cZ, 2, .inl (upd o_isKept i1.toNatClampNeg (vp_nar .boolean (1 : Int32)))))] := hD
    refine lv_aload_n hx hb dX5_keep_54 rfl (lv_at hl 0 rfl) ?_
    refine va_get (D := (dC, dI)) (ci := 5) (v := .ref a_o_s) (C := RX5) (T := TX5) (N := 29) hx hb hts uX5_keep_X5 hown hK hP 0 rfl rfl 21 (by decide) (hts _ mX5_keep_2) (fun _ h9 => h9) rfl dX5_keep_55 ?_
    refine lv_iconst (v := (0 : Int32)) hx hb dX5_keep_58 (by decide) ?_
    obtain ⟨h_6, hf⟩ := pgd hf
    refine va_iald hx hb hK hP 1 1 rfl rfl h_6 dX5_keep_59 ?_
    have q0 := Option.some.inj hf
    obtain ⟨e0, q1⟩ := Prod.mk.inj q0
    obtain ⟨e1, q2⟩ := Prod.mk.inj q1
    obtain ⟨e2, q3⟩ := Prod.mk.inj q2
    subst e0
    subst e1
    subst e2
    subst q3
    exact gRi hx hb hr hlocks hP hS dX5_keep_60
  · have hf := pit hf c_2
    refine lv_iconst (v := (-1 : Int32)) hx hb dX5_keep_14 (by decide) ?_
    have q0 := Option.some.inj hf
    obtain ⟨e0, q1⟩ := Prod.mk.inj q0
    obtain ⟨e1, q2⟩ := Prod.mk.inj q1
    obtain ⟨e2, q3⟩ := Prod.mk.inj q2
    subst e0
    subst e1
    subst e2
    subst q3
    exact gRi hx hb hr hlocks hP hS dX5_keep_15
abbrev rmX5_back : Room := { frames := 1, cells := 0, slots := 0, locals := 22 }
set_option maxRecDepth 20000 in
theorem uX5_back_X5 : ∀ w ∈ wsX50, w ∈ wsX5_back := by decide +kernel
set_option maxRecDepth 20000 in
theorem mX5_back_0 : (Cond.fieldLink RX5 59 "TradeWheelModel" "thrown" "I" : Cond) ∈ wsX5_back := by decide +kernel
set_option maxRecDepth 20000 in
theorem mX5_back_1 : (Cond.fieldLink RX5 43 "TradeWheelModel" "isKept" "[Z" : Cond) ∈ wsX5_back := by decide +kernel
set_option maxRecDepth 20000 in
theorem mX5_back_2 : (Cond.fieldLink RX5 34 "TradeWheelModel" "s" "[I" : Cond) ∈ wsX5_back := by decide +kernel
set_option maxRecDepth 20000 in
theorem mX5_back_3 : (Cond.fieldLink RX5 40 "TradeWheelModel" "kept" "[I" : Cond) ∈ wsX5_back := by decide +kernel
set_option maxHeartbeats 4000000 in
set_option maxRecDepth 100000 in
theorem wX5_back_30 {p : Program} {l : Launch} {e : Env} {s : State} {m : MethodId} {args : Array Value} {below : List Frame} {meth : Method} {c : Code} {Q : State → Prop} {A : Nat → Prop} {dC : Nat → ClassId} {dI : Nat → Nat → Nat} {Z : gZ} {cC cI cZ cW : ClassId} (hg0 : gX p s m args meth c cX5_back 3 (some .int) wsX5_back RX5 (dC, dI) Z [(cC, .char), (cI, .int), (cZ, .boolean), (cW, .object RX3)] A) (a_o a_o_text a_o_need a_o_made a_o_skillTold a_o_placeTold a_o_skips a_o_wheelTold a_o_tunes a_o_s a_o_spare a_o_kept a_o_isKept a_o_makes a_o_works a_o_order : Nat) (o_thrown : Int32) (o_trace : Int64) (o_typed : Int32) (o_next : Int32) (o_token : Int32) (o_place : Int32) (o_value : Int32) (o_fault : Int32) (o_trades : Int32) (o_people : Int32) (o_draftTrades : Int32) (o_draftPeople : Int32) (o_isShut : Int32) (o_falling : Int32) (o_kept : Nat → Int32) (o_isKept : Nat → Int32) (l1 : Int32) (N : Nat) : ∀ (n : Nat) (o_s : Nat → Int32) (l2 : Int32) (o_s' : Nat → Int32) (l2' : Int32), fX5_back_30 N o_kept l1 n o_s l2 = some (o_s', l2') → ∀ (H : Heap) (locs : List Loc) (ls : Array Slot), va_P (dC, dI) vwCl [(a_o, .inr (5, [.int o_thrown, .long o_trace, .ref a_o_text, .int o_typed, .int o_next, .int o_token, .int o_place, .int o_value, .int o_fault, .ref a_o_need, .ref a_o_made, .ref a_o_skillTold, .ref a_o_placeTold, .ref a_o_skips, .ref a_o_wheelTold, .int o_trades, .int o_people, .int o_draftTrades, .int o_draftPeople, .int o_isShut, .ref a_o_tunes, .ref a_o_s, .ref a_o_spare, .ref a_o_kept, .ref a_o_isKept, .ref a_o_makes, .ref a_o_works, .ref a_o_order, .int o_falling])), (a_o_s, .inl (cI, 105, .inl o_s)), (a_o_kept, .inl (cI, 210, .inl o_kept)), (a_o_isKept, .inl (cZ, 2, .inl o_isKept))] H → va_D A [(a_o, .inr (5, [.int o_thrown, .long o_trace, .ref a_o_text, .int o_typed, .int o_next, .int o_token, .int o_place, .int o_value, .int o_fault, .ref a_o_need, .ref a_o_made, .ref a_o_skillTold, .ref a_o_placeTold, .ref a_o_skips, .ref a_o_wheelTold, .int o_trades, .int o_people, .int o_draftTrades, .int o_draftPeople, .int o_isShut, .ref a_o_tunes, .ref a_o_s, .ref a_o_spare, .ref a_o_kept, .ref a_o_isKept, .ref a_o_makes, .ref a_o_works, .ref a_o_order, .int o_falling])), (a_o_s, .inl (cI, 105, .inl o_s)), (a_o_kept, .inl (cI, 210, .inl o_kept)), (a_o_isKept, .inl (cZ, 2, .inl o_isKept))] → va_S A s.heap H locs → lv_has ls 3 [(0, .ref a_o), (1, .int l1), (2, .int l2)] → (∀ (H : Heap) (locs : List Loc) (ls : Array Slot), va_P (dC, dI) vwCl [(a_o, .inr (5, [.int o_thrown, .long o_trace, .ref a_o_text, .int o_typed, .int o_next, .int o_token, .int o_place, .int o_value, .int o_fault, .ref a_o_need, .ref a_o_made, .ref a_o_skillTold, .ref a_o_placeTold, .ref a_o_skips, .ref a_o_wheelTold, .int o_trades, .int o_people, .int o_draftTrades, .int o_draftPeople, .int o_isShut, .ref a_o_tunes, .ref a_o_s, .ref a_o_spare, .ref a_o_kept, .ref a_o_isKept, .ref a_o_makes, .ref a_o_works, .ref a_o_order, .int o_falling])), (a_o_s, .inl (cI, 105, .inl o_s')), (a_o_kept, .inl (cI, 210, .inl o_kept)), (a_o_isKept, .inl (cZ, 2, .inl o_isKept))] H → va_D A [(a_o, .inr (5, [.int o_thrown, .long o_trace, .ref a_o_text, .int o_typed, .int o_next, .int o_token, .int o_place, .int o_value, .int o_fault, .ref a_o_need, .ref a_o_made, .ref a_o_skillTold, .ref a_o_placeTold, .ref a_o_skips, .ref a_o_wheelTold, .int o_trades, .int o_people, .int o_draftTrades, .int o_draftPeople, .int o_isShut, .ref a_o_tunes, .ref a_o_s, .ref a_o_spare, .ref a_o_kept, .ref a_o_isKept, .ref a_o_makes, .ref a_o_works, .ref a_o_order, .int o_falling])), (a_o_s, .inl (cI, 105, .inl o_s')), (a_o_kept, .inl (cI, 210, .inl o_kept)), (a_o_isKept, .inl (cZ, 2, .inl o_isKept))] → va_S A s.heap H locs → lv_has ls 3 [(0, .ref a_o)] → W p l e (headSpec wsX5_back rmX5_back).room s m args below meth c H locs 0 0 Q (F0 m 59 ls [])) → W p l e (headSpec wsX5_back rmX5_back).room s m args below meth c H locs 0 0 Q (F0 m 30 ls []) := by
  obtain ⟨hx, hb, hr, hml, hown, hts, hlocks, hA, hK, hN⟩ := id hg0
  have hF : CallFix p m c cX5_back 3 s args wsX5_back RX5 := ⟨hx, hb, hml, hown, hts⟩
  intro n
  induction n with
  | zero =>
    intro o_s l2 o_s' l2' hf
    have hf := fX5_back_30_0.symm.trans hf
    cases hf
  | succ n ih =>
    intro o_s l2 o_s' l2' hf H locs ls hP hD hS hl kx
    have hf := fX5_back_30_s.symm.trans hf
    refine lv_iload_n hx hb dX5_back_30 rfl (lv_at hl 2 rfl) ?_
    refine lv_bipush (v := (105 : Int32)) hx hb dX5_back_31 (by decide) ?_
    refine lv_icmp_ge (tgt := 59) hx hb dX5_back_33 (by decide) (fun c_1 => ?_) (fun c_1 => ?_)
    · have hf := pit hf c_1
      have q0 := Option.some.inj hf
      obtain ⟨e0, q1⟩ := Prod.mk.inj q0
      subst e0
      subst q1
      exact kx _ _ _ hP hD hS (lv_sub hl [0] rfl)
    · have hf := pif hf c_1
      refine lv_aload_n hx hb dX5_back_36 rfl (lv_at hl 0 rfl) ?_
      refine va_get (D := (dC, dI)) (ci := 5) (v := .ref a_o_s) (C := RX5) (T := TX5) (N := 29) hx hb hts uX5_back_X5 hown hK hP 0 rfl rfl 21 (by decide) (hts _ mX5_back_2) (fun _ h9 => h9) rfl dX5_back_37 ?_
      refine lv_iload_n hx hb dX5_back_40 rfl (lv_at hl 2 rfl) ?_
      refine lv_aload_n hx hb dX5_back_41 rfl (lv_at hl 0 rfl) ?_
      refine va_get (D := (dC, dI)) (ci := 5) (v := .ref a_o_kept) (C := RX5) (T := TX5) (N := 29) hx hb hts uX5_back_X5 hown hK hP 0 rfl rfl 23 (by decide) (hts _ mX5_back_3) (fun _ h9 => h9) rfl dX5_back_42 ?_
      refine lv_bipush (v := (105 : Int32)) hx hb dX5_back_45 (by decide) ?_
      refine lv_iload_n hx hb dX5_back_47 rfl (lv_at hl 1 rfl) ?_
      refine lv_imul hx hb dX5_back_48 ?_
      refine lv_iload_n hx hb dX5_back_49 rfl (lv_at hl 2 rfl) ?_
      refine lv_iadd hx hb dX5_back_50 ?_
      obtain ⟨h_2, hf⟩ := pgd hf
      refine va_iald hx hb hK hP 2 1 rfl rfl h_2 dX5_back_51 ?_
      obtain ⟨h_3, hf⟩ := pgd hf
      refine va_iast hx hb hK hP hD hS 1 1 rfl rfl h_3 dX5_back_52 (fun H locs hP hD hS => ?_)
      have hP : va_P (dC, dI) vwCl [(a_o, .inr (5, [.int o_thrown, .long o_trace, .ref a_o_text, .int o_typed, .int o_next, .int o_token, .int o_place, .int o_value, .int o_fault, .ref a_o_need, .ref a_o_made, .ref a_o_skillTold, .ref a_o_placeTold, .ref a_o_skips, .ref a_o_wheelTold, .int o_trades, .int o_people, .int o_draftTrades, .int o_draftPeople, .int o_isShut, .ref a_o_tunes, .ref a_o_s, .ref a_o_spare, .ref a_o_kept, .ref a_o_isKept, .ref a_o_makes, .ref a_o_works, .ref a_o_order, .int o_falling])), (a_o_s, .inl (cI, 105, .inl (upd o_s l2.toNatClampNeg (o_kept (((105 : Int32) * l1) + l2).toNatClampNeg)))), (a_o_kept, .inl (cI, 210, .inl o_kept)), (a_o_isKept, .inl (cZ, 2, .inl o_isKept))] H := hP
      have hD : va_D A [(a_o, .inr (5, [.int o_thrown, .long o_trace, .ref a_o_text, .int o_typed, .int o_next, .int o_token, .int o_place, .int o_value, .int o_fault, .ref a_o_need, .ref a_o_made, .ref a_o_skillTold, .ref a_o_placeTold, .ref a_o_skips, .ref a_o_wheelTold, .int o_trades, .int o_people, .int o_draftTrades, .int o_draftPeople, .int o_isShut, .ref a_o_tunes, .ref a_o_s, .ref a_o_spare, .ref a_o_kept, .ref a_o_isKept, .ref a_o_makes, .ref a_o_works, .ref a_o_order, .int o_falling])), (a_o_s, .inl (cI, 105, .inl (upd o_s l2.toNatClampNeg (o_kept (((105 : Int32) * l1) + l2).toNatClampNeg)))), (a_o_kept, .inl (cI, 210, .inl o_kept)), (a_o_isKept, .inl (cZ, 2, .inl o_isKept))] := hD
      refine lv_iinc (v := (l2 + 1)) (lv' := [(2, .int (l2 + 1)), (0, .ref a_o), (1, .int l1)]) hx hb dX5_back_53 hl (k := 2) rfl rfl (by decide) rfl (fun ls hl => ?_)
      refine lv_goto (tgt := 30) hx hb dX5_back_56 (by decide) ?_
      exact ih _ _ _ _ hf _ _ _ hP hD hS (lv_sub hl [1, 2, 0] rfl) kx
set_option maxHeartbeats 4000000 in
set_option maxRecDepth 100000 in
theorem kX5_back (l : Launch) (dC : Nat → ClassId) (dI : Nat → Nat → Nat) (Z : gZ) (cC cI cZ cW : ClassId) (a_o a_o_text a_o_need a_o_made a_o_skillTold a_o_placeTold a_o_skips a_o_wheelTold a_o_tunes a_o_s a_o_spare a_o_kept a_o_isKept a_o_makes a_o_works a_o_order : Nat) (sz : Nat) (o_thrown : Int32) (o_trace : Int64) (o_typed : Int32) (o_next : Int32) (o_token : Int32) (o_place : Int32) (o_value : Int32) (o_fault : Int32) (o_trades : Int32) (o_people : Int32) (o_draftTrades : Int32) (o_draftPeople : Int32) (o_isShut : Int32) (o_falling : Int32) (o_s : Nat → Int32) (o_kept : Nat → Int32) (o_isKept : Nat → Int32) (i1 : Int32) (N : Nat) (r' : Int32) (o_thrown' : Int32) (o_s' : Nat → Int32) (hf : fX5_back N o_thrown o_s o_kept o_isKept  i1 = some (r', o_thrown', o_s')) : Met l yX5_back wsX5_back rmX5_back (va_Pc [.ref a_o, .int i1] (gB (dC, dI) Z [(cC, .char), (cI, .int), (cZ, .boolean), (cW, .object RX3)] [(a_o, .inr (5, [.int o_thrown, .long o_trace, .ref a_o_text, .int o_typed, .int o_next, .int o_token, .int o_place, .int o_value, .int o_fault, .ref a_o_need, .ref a_o_made, .ref a_o_skillTold, .ref a_o_placeTold, .ref a_o_skips, .ref a_o_wheelTold, .int o_trades, .int o_people, .int o_draftTrades, .int o_draftPeople, .int o_isShut, .ref a_o_tunes, .ref a_o_s, .ref a_o_spare, .ref a_o_kept, .ref a_o_isKept, .ref a_o_makes, .ref a_o_works, .ref a_o_order, .int o_falling])), (a_o_s, .inl (cI, 105, .inl o_s)), (a_o_kept, .inl (cI, 210, .inl o_kept)), (a_o_isKept, .inl (cZ, 2, .inl o_isKept))] sz)) (va_Qi (fun (r : Int32) (_ : Unit) => r = r') (gE (dC, dI) [(a_o, .inr (5, [.int o_thrown', .long o_trace, .ref a_o_text, .int o_typed, .int o_next, .int o_token, .int o_place, .int o_value, .int o_fault, .ref a_o_need, .ref a_o_made, .ref a_o_skillTold, .ref a_o_placeTold, .ref a_o_skips, .ref a_o_wheelTold, .int o_trades, .int o_people, .int o_draftTrades, .int o_draftPeople, .int o_isShut, .ref a_o_tunes, .ref a_o_s, .ref a_o_spare, .ref a_o_kept, .ref a_o_isKept, .ref a_o_makes, .ref a_o_works, .ref a_o_order, .int o_falling])), (a_o_s, .inl (cI, 105, .inl o_s')), (a_o_kept, .inl (cI, 210, .inl o_kept)), (a_o_isKept, .inl (cZ, 2, .inl o_isKept))]) (va_A [(a_o, .inr (5, [.int o_thrown, .long o_trace, .ref a_o_text, .int o_typed, .int o_next, .int o_token, .int o_place, .int o_value, .int o_fault, .ref a_o_need, .ref a_o_made, .ref a_o_skillTold, .ref a_o_placeTold, .ref a_o_skips, .ref a_o_wheelTold, .int o_trades, .int o_people, .int o_draftTrades, .int o_draftPeople, .int o_isShut, .ref a_o_tunes, .ref a_o_s, .ref a_o_spare, .ref a_o_kept, .ref a_o_isKept, .ref a_o_makes, .ref a_o_works, .ref a_o_order, .int o_falling])), (a_o_s, .inl (cI, 105, .inl o_s)), (a_o_kept, .inl (cI, 210, .inl o_kept)), (a_o_isKept, .inl (cZ, 2, .inl o_isKept))] sz)) 0 0 (va_A [(a_o, .inr (5, [.int o_thrown, .long o_trace, .ref a_o_text, .int o_typed, .int o_next, .int o_token, .int o_place, .int o_value, .int o_fault, .ref a_o_need, .ref a_o_made, .ref a_o_skillTold, .ref a_o_placeTold, .ref a_o_skips, .ref a_o_wheelTold, .int o_trades, .int o_people, .int o_draftTrades, .int o_draftPeople, .int o_isShut, .ref a_o_tunes, .ref a_o_s, .ref a_o_spare, .ref a_o_kept, .ref a_o_isKept, .ref a_o_makes, .ref a_o_works, .ref a_o_order, .int o_falling])), (a_o_s, .inl (cI, 105, .inl o_s)), (a_o_kept, .inl (cI, 210, .inl o_kept)), (a_o_isKept, .inl (cZ, 2, .inl o_isKept))] sz) := by
  refine gMet (cc := cX5_back) (maxL := 3) (ret := (some .int)) (Qc := fun A => va_Qi (fun (r : Int32) (_ : Unit) => r = r') (gE (dC, dI) [(a_o, .inr (5, [.int o_thrown', .long o_trace, .ref a_o_text, .int o_typed, .int o_next, .int o_token, .int o_place, .int o_value, .int o_fault, .ref a_o_need, .ref a_o_made, .ref a_o_skillTold, .ref a_o_placeTold, .ref a_o_skips, .ref a_o_wheelTold, .int o_trades, .int o_people, .int o_draftTrades, .int o_draftPeople, .int o_isShut, .ref a_o_tunes, .ref a_o_s, .ref a_o_spare, .ref a_o_kept, .ref a_o_isKept, .ref a_o_makes, .ref a_o_works, .ref a_o_order, .int o_falling])), (a_o_s, .inl (cI, 105, .inl o_s')), (a_o_kept, .inl (cI, 210, .inl o_kept)), (a_o_isKept, .inl (cZ, 2, .inl o_isKept))]) A) (by decide) rfl (Nat.le_of_ble_eq_true rfl) ?_
  intro p e s m below meth c A ls hg0 _ hsz hP hD hS hl
  have hg0 : gX p s m _ meth c cX5_back 3 (some .int) wsX5_back RX5 (dC, dI) Z [(cC, .char), (cI, .int), (cZ, .boolean), (cW, .object RX3)] A := hg0
  obtain ⟨hx, hb, hr, hml, hown, hts, hlocks, hA, hK, hN⟩ := id hg0
  subst hsz
  have hF : CallFix p m c cX5_back 3 s _ wsX5_back RX5 := ⟨hx, hb, hml, hown, hts⟩
  have hl : lv_has ls 3 [(0, .ref a_o), (1, .int i1)] := hl
  unfold fX5_back at hf
  refine lv_aload_n hx hb dX5_back_0 rfl (lv_at hl 0 rfl) ?_
  refine lv_iconst (v := (0 : Int32)) hx hb dX5_back_1 (by decide) ?_
  refine va_put (D := (dC, dI)) (ci := 5) (v := .int (0 : Int32)) (ty := .int) (C := RX5) (T := TX5) (N := 29) hx hb hts uX5_back_X5 tyX5 tyX5_ok nmX5 hown hK hP hD hS 0 rfl rfl 0 (by decide) (hts _ mX5_back_0) (fun _ h9 => h9) rfl (by decide +kernel) rfl rfl (Nat.le_of_ble_eq_true rfl) dX5_back_2 (fun H locs hP hD hS => ?_)
  have hP : va_P (dC, dI) vwCl [(a_o, .inr (5, [.int (0 : Int32), .long o_trace, .ref a_o_text, .int o_typed, .int o_next, .int o_token, .int o_place, .int o_value, .int o_fault, .ref a_o_need, .ref a_o_made, .ref a_o_skillTold, .ref a_o_placeTold, .ref a_o_skips, .ref a_o_wheelTold, .int o_trades, .int o_people, .int o_draftTrades, .int o_draftPeople, .int o_isShut, .ref a_o_tunes, .ref a_o_s, .ref a_o_spare, .ref a_o_kept, .ref a_o_isKept, .ref a_o_makes, .ref a_o_works, .ref a_o_order, .int o_falling])), (a_o_s, .inl (cI, 105, .inl o_s)), (a_o_kept, .inl (cI, 210, .inl o_kept)), (a_o_isKept, .inl (cZ, 2, .inl o_isKept))] H := hP
  have hD : va_D A [(a_o, .inr (5, [.int (0 : Int32), .long o_trace, .ref a_o_text, .int o_typed, .int o_next, .int o_token, .int o_place, .int o_value, .int o_fault, .ref a_o_need, .ref a_o_made, .ref a_o_skillTold, .ref a_o_placeTold, .ref a_o_skips, .ref a_o_wheelTold, .int o_trades, .int o_people, .int o_draftTrades, .int o_draftPeople, .int o_isShut, .ref a_o_tunes, .ref a_o_s, .ref a_o_spare, .ref a_o_kept, .ref a_o_isKept, .ref a_o_makes, .ref a_o_works, .ref a_o_order, .int o_falling])), (a_o_s, .inl (cI, 105, .inl o_s)), (a_o_kept, .inl (cI, 210, .inl o_kept)), (a_o_isKept, .inl (cZ, 2, .inl o_isKept))] := hD
  refine lv_iload_n hx hb dX5_back_5 rfl (lv_at hl 1 rfl) ?_
  refine lv_iconst (v := (0 : Int32)) hx hb dX5_back_6 (by decide) ?_
  refine lv_iconst (v := (1 : Int32)) hx hb dX5_back_7 (by decide) ?_
  obtain ⟨r_1, hc, hf⟩ := pb1 hf
  refine gCi (va_runS (As := [.int i1, .int (0 : Int32), .int (1 : Int32)]) (rest := []) hF (kX5_in l dC dI Z cC cI cZ cW  _  i1 (0 : Int32) (1 : Int32) N r_1 hc) (cwS 3 hts gX5_back_X5_in rfl rfl rfl (by decide +kernel) ⟨Nat.le_of_ble_eq_true rfl, Nat.le_of_ble_eq_true rfl⟩) (gPS (wc := []) hK hN hA hS hP hD [] rfl rfl) rfl rfl hl.1 rfl (lv_room (Nat.le_of_ble_eq_true rfl)) dX5_back_8 ⟨Nat.zero_le _, Nat.zero_le _⟩) hP hD hS hA [] rfl rfl rfl (fun H locs hP hD hS => ?_)
  have hP : va_P (dC, dI) vwCl [(a_o, .inr (5, [.int (0 : Int32), .long o_trace, .ref a_o_text, .int o_typed, .int o_next, .int o_token, .int o_place, .int o_value, .int o_fault, .ref a_o_need, .ref a_o_made, .ref a_o_skillTold, .ref a_o_placeTold, .ref a_o_skips, .ref a_o_wheelTold, .int o_trades, .int o_people, .int o_draftTrades, .int o_draftPeople, .int o_isShut, .ref a_o_tunes, .ref a_o_s, .ref a_o_spare, .ref a_o_kept, .ref a_o_isKept, .ref a_o_makes, .ref a_o_works, .ref a_o_order, .int o_falling])), (a_o_s, .inl (cI, 105, .inl o_s)), (a_o_kept, .inl (cI, 210, .inl o_kept)), (a_o_isKept, .inl (cZ, 2, .inl o_isKept))] H := hP
  have hD : va_D A [(a_o, .inr (5, [.int (0 : Int32), .long o_trace, .ref a_o_text, .int o_typed, .int o_next, .int o_token, .int o_place, .int o_value, .int o_fault, .ref a_o_need, .ref a_o_made, .ref a_o_skillTold, .ref a_o_placeTold, .ref a_o_skips, .ref a_o_wheelTold, .int o_trades, .int o_people, .int o_draftTrades, .int o_draftPeople, .int o_isShut, .ref a_o_tunes, .ref a_o_s, .ref a_o_spare, .ref a_o_kept, .ref a_o_isKept, .ref a_o_makes, .ref a_o_works, .ref a_o_order, .int o_falling])), (a_o_s, .inl (cI, 105, .inl o_s)), (a_o_kept, .inl (cI, 210, .inl o_kept)), (a_o_isKept, .inl (cZ, 2, .inl o_isKept))] := hD
  refine lv_if_ne (tgt := 16) hx hb dX5_back_11 (by decide) (fun c_2 => ?_) (fun c_2 => ?_)
  · have hf := pif hf c_2
    refine lv_aload_n hx hb dX5_back_16 rfl (lv_at hl 0 rfl) ?_
    refine va_get (D := (dC, dI)) (ci := 5) (v := .ref a_o_isKept) (C := RX5) (T := TX5) (N := 29) hx hb hts uX5_back_X5 hown hK hP 0 rfl rfl 24 (by decide) (hts _ mX5_back_1) (fun _ h9 => h9) rfl dX5_back_17 ?_
    refine lv_iload_n hx hb dX5_back_20 rfl (lv_at hl 1 rfl) ?_
    obtain ⟨h_3, hf⟩ := pgd hf
    refine va_zald hx hb hK hP 3 2 rfl rfl h_3 dX5_back_21 ?_
    refine lv_if_ne (tgt := 28) hx hb dX5_back_22 (by decide) (fun c_4 => ?_) (fun c_4 => ?_)
    · have hf := pif hf c_4
      refine lv_iconst (v := (0 : Int32)) hx hb dX5_back_28 (by decide) ?_
      refine lv_istore_n (lv' := [(2, .int (0 : Int32)), (0, .ref a_o), (1, .int i1)]) hx hb dX5_back_29 rfl hl (by decide) rfl (fun ls hl => ?_)
      obtain ⟨o_s_5, l2_6, hc, hf⟩ := pb2 hf
      refine wX5_back_30 hg0 a_o a_o_text a_o_need a_o_made a_o_skillTold a_o_placeTold a_o_skips a_o_wheelTold a_o_tunes a_o_s a_o_spare a_o_kept a_o_isKept a_o_makes a_o_works a_o_order (0 : Int32) o_trace o_typed o_next o_token o_place o_value o_fault o_trades o_people o_draftTrades o_draftPeople o_isShut o_falling o_kept o_isKept i1 N N o_s (0 : Int32) o_s_5 l2_6 hc _ _ _ hP hD hS (lv_sub hl [1, 2, 0] rfl) (fun H locs ls hP hD hS hl => ?_)
      refine lv_aload_n hx hb dX5_back_59 rfl (lv_at hl 0 rfl) ?_
      refine va_get (D := (dC, dI)) (ci := 5) (v := .ref a_o_s) (C := RX5) (T := TX5) (N := 29) hx hb hts uX5_back_X5 hown hK hP 0 rfl rfl 21 (by decide) (hts _ mX5_back_2) (fun _ h9 => h9) rfl dX5_back_60 ?_
      refine lv_iconst (v := (0 : Int32)) hx hb dX5_back_63 (by decide) ?_
      obtain ⟨h_7, hf⟩ := pgd hf
      refine va_iald hx hb hK hP 1 1 rfl rfl h_7 dX5_back_64 ?_
      have q0 := Option.some.inj hf
      obtain ⟨e0, q1⟩ := Prod.mk.inj q0
      obtain ⟨e1, q2⟩ := Prod.mk.inj q1
      subst e0
      subst e1
      subst q2
      exact gRi hx hb hr hlocks hP hS dX5_back_65
    · have hf := pit hf c_4
      refine lv_bipush (v := (-2 : Int32)) hx hb dX5_back_25 (by decide) ?_
      have q0 := Option.some.inj hf
      obtain ⟨e0, q1⟩ := Prod.mk.inj q0
      obtain ⟨e1, q2⟩ := Prod.mk.inj q1
      subst e0
      subst e1
      subst q2
      exact gRi hx hb hr hlocks hP hS dX5_back_27
  · have hf := pit hf c_2
    refine lv_iconst (v := (-1 : Int32)) hx hb dX5_back_14 (by decide) ?_
    have q0 := Option.some.inj hf
    obtain ⟨e0, q1⟩ := Prod.mk.inj q0
    obtain ⟨e1, q2⟩ := Prod.mk.inj q1
    subst e0
    subst e1
    subst q2
    exact gRi hx hb hr hlocks hP hS dX5_back_15
abbrev rmX5_count : Room := { frames := 1, cells := 0, slots := 0, locals := 21 }
set_option maxRecDepth 20000 in
theorem uX5_count_X5 : ∀ w ∈ wsX50, w ∈ wsX5_count := by decide +kernel
set_option maxRecDepth 20000 in
theorem mX5_count_0 : (Cond.fieldLink RX5 59 "TradeWheelModel" "thrown" "I" : Cond) ∈ wsX5_count := by decide +kernel
set_option maxRecDepth 20000 in
theorem mX5_count_1 : (Cond.fieldLink RX5 140 "TradeWheelModel" "people" "I" : Cond) ∈ wsX5_count := by decide +kernel
set_option maxRecDepth 20000 in
theorem mX5_count_2 : (Cond.fieldLink RX5 34 "TradeWheelModel" "s" "[I" : Cond) ∈ wsX5_count := by decide +kernel
set_option maxRecDepth 20000 in
theorem mX5_count_3 : (Cond.fieldLink RX5 67 "TradeWheelModel" "typed" "I" : Cond) ∈ wsX5_count := by decide +kernel
set_option maxRecDepth 20000 in
theorem mX5_count_4 : (Cond.fieldLink RX5 137 "TradeWheelModel" "trades" "I" : Cond) ∈ wsX5_count := by decide +kernel
set_option maxHeartbeats 4000000 in
set_option maxRecDepth 100000 in
theorem wX5_count_12 {p : Program} {l : Launch} {e : Env} {s : State} {m : MethodId} {args : Array Value} {below : List Frame} {meth : Method} {c : Code} {Q : State → Prop} {A : Nat → Prop} {dC : Nat → ClassId} {dI : Nat → Nat → Nat} {Z : gZ} {cC cI cZ cW : ClassId} (hg0 : gX p s m args meth c cX5_count 5 (some .int) wsX5_count RX5 (dC, dI) Z [(cC, .char), (cI, .int), (cZ, .boolean), (cW, .object RX3)] A) (a_o a_o_text a_o_need a_o_made a_o_skillTold a_o_placeTold a_o_skips a_o_wheelTold a_o_tunes a_o_s a_o_spare a_o_kept a_o_isKept a_o_makes a_o_works a_o_order : Nat) (o_thrown : Int32) (o_trace : Int64) (o_typed : Int32) (o_next : Int32) (o_token : Int32) (o_place : Int32) (o_value : Int32) (o_fault : Int32) (o_trades : Int32) (o_people : Int32) (o_draftTrades : Int32) (o_draftPeople : Int32) (o_isShut : Int32) (o_falling : Int32) (o_s : Nat → Int32) (l1 : Int32) (N : Nat) : ∀ (n : Nat) (l2 : Int32) (l3 : Int32) (l4 : Int32) (l2' : Int32) (l3' : Int32) (l4' : Int32), fX5_count_12 N o_people o_s n l2 l3 l4 = some (l2', l3', l4') → ∀ (H : Heap) (locs : List Loc) (ls : Array Slot), va_P (dC, dI) vwCl [(a_o, .inr (5, [.int o_thrown, .long o_trace, .ref a_o_text, .int o_typed, .int o_next, .int o_token, .int o_place, .int o_value, .int o_fault, .ref a_o_need, .ref a_o_made, .ref a_o_skillTold, .ref a_o_placeTold, .ref a_o_skips, .ref a_o_wheelTold, .int o_trades, .int o_people, .int o_draftTrades, .int o_draftPeople, .int o_isShut, .ref a_o_tunes, .ref a_o_s, .ref a_o_spare, .ref a_o_kept, .ref a_o_isKept, .ref a_o_makes, .ref a_o_works, .ref a_o_order, .int o_falling])), (a_o_s, .inl (cI, 105, .inl o_s))] H → va_D A [(a_o, .inr (5, [.int o_thrown, .long o_trace, .ref a_o_text, .int o_typed, .int o_next, .int o_token, .int o_place, .int o_value, .int o_fault, .ref a_o_need, .ref a_o_made, .ref a_o_skillTold, .ref a_o_placeTold, .ref a_o_skips, .ref a_o_wheelTold, .int o_trades, .int o_people, .int o_draftTrades, .int o_draftPeople, .int o_isShut, .ref a_o_tunes, .ref a_o_s, .ref a_o_spare, .ref a_o_kept, .ref a_o_isKept, .ref a_o_makes, .ref a_o_works, .ref a_o_order, .int o_falling])), (a_o_s, .inl (cI, 105, .inl o_s))] → va_S A s.heap H locs → lv_has ls 5 [(0, .ref a_o), (1, .int l1), (2, .int l2), (3, .int l3), (4, .int l4)] → (∀ (H : Heap) (locs : List Loc) (ls : Array Slot), va_P (dC, dI) vwCl [(a_o, .inr (5, [.int o_thrown, .long o_trace, .ref a_o_text, .int o_typed, .int o_next, .int o_token, .int o_place, .int o_value, .int o_fault, .ref a_o_need, .ref a_o_made, .ref a_o_skillTold, .ref a_o_placeTold, .ref a_o_skips, .ref a_o_wheelTold, .int o_trades, .int o_people, .int o_draftTrades, .int o_draftPeople, .int o_isShut, .ref a_o_tunes, .ref a_o_s, .ref a_o_spare, .ref a_o_kept, .ref a_o_isKept, .ref a_o_makes, .ref a_o_works, .ref a_o_order, .int o_falling])), (a_o_s, .inl (cI, 105, .inl o_s))] H → va_D A [(a_o, .inr (5, [.int o_thrown, .long o_trace, .ref a_o_text, .int o_typed, .int o_next, .int o_token, .int o_place, .int o_value, .int o_fault, .ref a_o_need, .ref a_o_made, .ref a_o_skillTold, .ref a_o_placeTold, .ref a_o_skips, .ref a_o_wheelTold, .int o_trades, .int o_people, .int o_draftTrades, .int o_draftPeople, .int o_isShut, .ref a_o_tunes, .ref a_o_s, .ref a_o_spare, .ref a_o_kept, .ref a_o_isKept, .ref a_o_makes, .ref a_o_works, .ref a_o_order, .int o_falling])), (a_o_s, .inl (cI, 105, .inl o_s))] → va_S A s.heap H locs → lv_has ls 5 [(0, .ref a_o), (1, .int l1), (2, .int l2'), (3, .int l3')] → W p l e (headSpec wsX5_count rmX5_count).room s m args below meth c H locs 0 0 Q (F0 m 67 ls [])) → W p l e (headSpec wsX5_count rmX5_count).room s m args below meth c H locs 0 0 Q (F0 m 12 ls []) := by
  obtain ⟨hx, hb, hr, hml, hown, hts, hlocks, hA, hK, hN⟩ := id hg0
  have hF : CallFix p m c cX5_count 5 s args wsX5_count RX5 := ⟨hx, hb, hml, hown, hts⟩
  intro n
  induction n with
  | zero =>
    intro l2 l3 l4 l2' l3' l4' hf
    have hf := fX5_count_12_0.symm.trans hf
    cases hf
  | succ n ih =>
    intro l2 l3 l4 l2' l3' l4' hf H locs ls hP hD hS hl kx
    have hf := fX5_count_12_s.symm.trans hf
    refine lv_iload hx hb dX5_count_12 (lv_at hl 4 rfl) ?_
    refine lv_aload_n hx hb dX5_count_14 rfl (lv_at hl 0 rfl) ?_
    refine va_get (D := (dC, dI)) (ci := 5) (v := .int o_people) (C := RX5) (T := TX5) (N := 29) hx hb hts uX5_count_X5 hown hK hP 0 rfl rfl 16 (by decide) (hts _ mX5_count_1) (fun _ h9 => h9) rfl dX5_count_15 ?_
    refine lv_icmp_ge (tgt := 67) hx hb dX5_count_18 (by decide) (fun c_1 => ?_) (fun c_1 => ?_)
    · have hf := pit hf c_1
      have q0 := Option.some.inj hf
      obtain ⟨e0, q1⟩ := Prod.mk.inj q0
      obtain ⟨e1, q2⟩ := Prod.mk.inj q1
      subst e0
      subst e1
      subst q2
      exact kx _ _ _ hP hD hS (lv_sub hl [0, 1, 2, 3] rfl)
    · have hf := pif hf c_1
      refine lv_iload_n hx hb dX5_count_21 rfl (lv_at hl 2 rfl) ?_
      refine lv_aload_n hx hb dX5_count_22 rfl (lv_at hl 0 rfl) ?_
      refine va_get (D := (dC, dI)) (ci := 5) (v := .ref a_o_s) (C := RX5) (T := TX5) (N := 29) hx hb hts uX5_count_X5 hown hK hP 0 rfl rfl 21 (by decide) (hts _ mX5_count_2) (fun _ h9 => h9) rfl dX5_count_23 ?_
      refine lv_bipush (v := (26 : Int32)) hx hb dX5_count_26 (by decide) ?_
      refine lv_iload hx hb dX5_count_28 (lv_at hl 4 rfl) ?_
      refine lv_iadd hx hb dX5_count_30 ?_
      obtain ⟨h_2, hf⟩ := pgd hf
      refine va_iald hx hb hK hP 1 1 rfl rfl h_2 dX5_count_31 ?_
      refine lv_bipush (v := (-9 : Int32)) hx hb dX5_count_32 (by decide) ?_
      refine lv_icmp_eq (tgt := 41) hx hb dX5_count_34 (by decide) (fun c_3 => ?_) (fun c_3 => ?_)
      · have hf := pit hf c_3
        refine lv_iconst (v := (0 : Int32)) hx hb dX5_count_41 (by decide) ?_
        refine lv_iadd hx hb dX5_count_42 ?_
        refine lv_istore_n (lv' := [(2, .int (l2 + (0 : Int32))), (0, .ref a_o), (1, .int l1), (3, .int l3), (4, .int l4)]) hx hb dX5_count_43 rfl hl (by decide) rfl (fun ls hl => ?_)
        refine lv_iload_n hx hb dX5_count_44 rfl (lv_at hl 3 rfl) ?_
        refine lv_aload_n hx hb dX5_count_45 rfl (lv_at hl 1 rfl) ?_
        refine lv_iload hx hb dX5_count_46 (lv_at hl 4 rfl) ?_
        obtain ⟨r_4, hc, hf⟩ := pb1 hf
        refine gCi (va_runV (As := [.int l4]) (rest := [.int l3]) hF (kX5_isIll l dC dI Z cC cI cZ cW a_o a_o_text a_o_need a_o_made a_o_skillTold a_o_placeTold a_o_skips a_o_wheelTold a_o_tunes a_o_s a_o_spare a_o_kept a_o_isKept a_o_makes a_o_works a_o_order _ o_thrown o_trace o_typed o_next o_token o_place o_value o_fault o_trades o_people o_draftTrades o_draftPeople o_isShut o_falling o_s l4 N r_4 hc) (cwV 1 hts gX5_count_X5_isIll rfl rfl rfl (by decide +kernel) ⟨Nat.le_of_ble_eq_true rfl, Nat.le_of_ble_eq_true rfl⟩) (gPV (wc := [(a_o, .inr (5, [.int o_thrown, .long o_trace, .ref a_o_text, .int o_typed, .int o_next, .int o_token, .int o_place, .int o_value, .int o_fault, .ref a_o_need, .ref a_o_made, .ref a_o_skillTold, .ref a_o_placeTold, .ref a_o_skips, .ref a_o_wheelTold, .int o_trades, .int o_people, .int o_draftTrades, .int o_draftPeople, .int o_isShut, .ref a_o_tunes, .ref a_o_s, .ref a_o_spare, .ref a_o_kept, .ref a_o_isKept, .ref a_o_makes, .ref a_o_works, .ref a_o_order, .int o_falling])), (a_o_s, .inl (cI, 105, .inl o_s))]) hK hN hA hS hP hD [0, 1] rfl rfl (q0 := 0) (ci := 5) rfl rfl rfl) rfl rfl hl.1 rfl (lv_room (Nat.le_of_ble_eq_true rfl)) dX5_count_48 ⟨Nat.zero_le _, Nat.zero_le _⟩) hP hD hS hA [0, 1] rfl rfl rfl (fun H locs hP hD hS => ?_)
        have hP : va_P (dC, dI) vwCl [(a_o, .inr (5, [.int o_thrown, .long o_trace, .ref a_o_text, .int o_typed, .int o_next, .int o_token, .int o_place, .int o_value, .int o_fault, .ref a_o_need, .ref a_o_made, .ref a_o_skillTold, .ref a_o_placeTold, .ref a_o_skips, .ref a_o_wheelTold, .int o_trades, .int o_people, .int o_draftTrades, .int o_draftPeople, .int o_isShut, .ref a_o_tunes, .ref a_o_s, .ref a_o_spare, .ref a_o_kept, .ref a_o_isKept, .ref a_o_makes, .ref a_o_works, .ref a_o_order, .int o_falling])), (a_o_s, .inl (cI, 105, .inl o_s))] H := hP
        have hD : va_D A [(a_o, .inr (5, [.int o_thrown, .long o_trace, .ref a_o_text, .int o_typed, .int o_next, .int o_token, .int o_place, .int o_value, .int o_fault, .ref a_o_need, .ref a_o_made, .ref a_o_skillTold, .ref a_o_placeTold, .ref a_o_skips, .ref a_o_wheelTold, .int o_trades, .int o_people, .int o_draftTrades, .int o_draftPeople, .int o_isShut, .ref a_o_tunes, .ref a_o_s, .ref a_o_spare, .ref a_o_kept, .ref a_o_isKept, .ref a_o_makes, .ref a_o_works, .ref a_o_order, .int o_falling])), (a_o_s, .inl (cI, 105, .inl o_s))] := hD
        refine lv_if_eq (tgt := 58) hx hb dX5_count_51 (by decide) (fun c_5 => ?_) (fun c_5 => ?_)
        · have hf := pit hf c_5
          refine lv_iconst (v := (0 : Int32)) hx hb dX5_count_58 (by decide) ?_
          refine lv_iadd hx hb dX5_count_59 ?_
          refine lv_istore_n (lv' := [(3, .int (l3 + (0 : Int32))), (2, .int (l2 + (0 : Int32))), (0, .ref a_o), (1, .int l1), (4, .int l4)]) hx hb dX5_count_60 rfl hl (by decide) rfl (fun ls hl => ?_)
          refine lv_iinc (v := (l4 + 1)) (lv' := [(4, .int (l4 + 1)), (3, .int (l3 + (0 : Int32))), (2, .int (l2 + (0 : Int32))), (0, .ref a_o), (1, .int l1)]) hx hb dX5_count_61 hl (k := 4) rfl rfl (by decide) rfl (fun ls hl => ?_)
          refine lv_goto (tgt := 12) hx hb dX5_count_64 (by decide) ?_
          exact ih _ _ _ _ _ _ hf _ _ _ hP hD hS (lv_sub hl [3, 4, 2, 1, 0] rfl) kx
        · have hf := pif hf c_5
          refine lv_iconst (v := (1 : Int32)) hx hb dX5_count_54 (by decide) ?_
          refine lv_goto (tgt := 59) hx hb dX5_count_55 (by decide) ?_
          refine lv_iadd hx hb dX5_count_59 ?_
          refine lv_istore_n (lv' := [(3, .int (l3 + (1 : Int32))), (2, .int (l2 + (0 : Int32))), (0, .ref a_o), (1, .int l1), (4, .int l4)]) hx hb dX5_count_60 rfl hl (by decide) rfl (fun ls hl => ?_)
          refine lv_iinc (v := (l4 + 1)) (lv' := [(4, .int (l4 + 1)), (3, .int (l3 + (1 : Int32))), (2, .int (l2 + (0 : Int32))), (0, .ref a_o), (1, .int l1)]) hx hb dX5_count_61 hl (k := 4) rfl rfl (by decide) rfl (fun ls hl => ?_)
          refine lv_goto (tgt := 12) hx hb dX5_count_64 (by decide) ?_
          exact ih _ _ _ _ _ _ hf _ _ _ hP hD hS (lv_sub hl [3, 4, 2, 1, 0] rfl) kx
      · have hf := pif hf c_3
        refine lv_iconst (v := (1 : Int32)) hx hb dX5_count_37 (by decide) ?_
        refine lv_goto (tgt := 42) hx hb dX5_count_38 (by decide) ?_
        refine lv_iadd hx hb dX5_count_42 ?_
        refine lv_istore_n (lv' := [(2, .int (l2 + (1 : Int32))), (0, .ref a_o), (1, .int l1), (3, .int l3), (4, .int l4)]) hx hb dX5_count_43 rfl hl (by decide) rfl (fun ls hl => ?_)
        refine lv_iload_n hx hb dX5_count_44 rfl (lv_at hl 3 rfl) ?_
        refine lv_aload_n hx hb dX5_count_45 rfl (lv_at hl 1 rfl) ?_
        refine lv_iload hx hb dX5_count_46 (lv_at hl 4 rfl) ?_
        obtain ⟨r_6, hc, hf⟩ := pb1 hf
        refine gCi (va_runV (As := [.int l4]) (rest := [.int l3]) hF (kX5_isIll l dC dI Z cC cI cZ cW a_o a_o_text a_o_need a_o_made a_o_skillTold a_o_placeTold a_o_skips a_o_wheelTold a_o_tunes a_o_s a_o_spare a_o_kept a_o_isKept a_o_makes a_o_works a_o_order _ o_thrown o_trace o_typed o_next o_token o_place o_value o_fault o_trades o_people o_draftTrades o_draftPeople o_isShut o_falling o_s l4 N r_6 hc) (cwV 1 hts gX5_count_X5_isIll rfl rfl rfl (by decide +kernel) ⟨Nat.le_of_ble_eq_true rfl, Nat.le_of_ble_eq_true rfl⟩) (gPV (wc := [(a_o, .inr (5, [.int o_thrown, .long o_trace, .ref a_o_text, .int o_typed, .int o_next, .int o_token, .int o_place, .int o_value, .int o_fault, .ref a_o_need, .ref a_o_made, .ref a_o_skillTold, .ref a_o_placeTold, .ref a_o_skips, .ref a_o_wheelTold, .int o_trades, .int o_people, .int o_draftTrades, .int o_draftPeople, .int o_isShut, .ref a_o_tunes, .ref a_o_s, .ref a_o_spare, .ref a_o_kept, .ref a_o_isKept, .ref a_o_makes, .ref a_o_works, .ref a_o_order, .int o_falling])), (a_o_s, .inl (cI, 105, .inl o_s))]) hK hN hA hS hP hD [0, 1] rfl rfl (q0 := 0) (ci := 5) rfl rfl rfl) rfl rfl hl.1 rfl (lv_room (Nat.le_of_ble_eq_true rfl)) dX5_count_48 ⟨Nat.zero_le _, Nat.zero_le _⟩) hP hD hS hA [0, 1] rfl rfl rfl (fun H locs hP hD hS => ?_)
        have hP : va_P (dC, dI) vwCl [(a_o, .inr (5, [.int o_thrown, .long o_trace, .ref a_o_text, .int o_typed, .int o_next, .int o_token, .int o_place, .int o_value, .int o_fault, .ref a_o_need, .ref a_o_made, .ref a_o_skillTold, .ref a_o_placeTold, .ref a_o_skips, .ref a_o_wheelTold, .int o_trades, .int o_people, .int o_draftTrades, .int o_draftPeople, .int o_isShut, .ref a_o_tunes, .ref a_o_s, .ref a_o_spare, .ref a_o_kept, .ref a_o_isKept, .ref a_o_makes, .ref a_o_works, .ref a_o_order, .int o_falling])), (a_o_s, .inl (cI, 105, .inl o_s))] H := hP
        have hD : va_D A [(a_o, .inr (5, [.int o_thrown, .long o_trace, .ref a_o_text, .int o_typed, .int o_next, .int o_token, .int o_place, .int o_value, .int o_fault, .ref a_o_need, .ref a_o_made, .ref a_o_skillTold, .ref a_o_placeTold, .ref a_o_skips, .ref a_o_wheelTold, .int o_trades, .int o_people, .int o_draftTrades, .int o_draftPeople, .int o_isShut, .ref a_o_tunes, .ref a_o_s, .ref a_o_spare, .ref a_o_kept, .ref a_o_isKept, .ref a_o_makes, .ref a_o_works, .ref a_o_order, .int o_falling])), (a_o_s, .inl (cI, 105, .inl o_s))] := hD
        refine lv_if_eq (tgt := 58) hx hb dX5_count_51 (by decide) (fun c_7 => ?_) (fun c_7 => ?_)
        · have hf := pit hf c_7
          refine lv_iconst (v := (0 : Int32)) hx hb dX5_count_58 (by decide) ?_
          refine lv_iadd hx hb dX5_count_59 ?_
          refine lv_istore_n (lv' := [(3, .int (l3 + (0 : Int32))), (2, .int (l2 + (1 : Int32))), (0, .ref a_o), (1, .int l1), (4, .int l4)]) hx hb dX5_count_60 rfl hl (by decide) rfl (fun ls hl => ?_)
          refine lv_iinc (v := (l4 + 1)) (lv' := [(4, .int (l4 + 1)), (3, .int (l3 + (0 : Int32))), (2, .int (l2 + (1 : Int32))), (0, .ref a_o), (1, .int l1)]) hx hb dX5_count_61 hl (k := 4) rfl rfl (by decide) rfl (fun ls hl => ?_)
          refine lv_goto (tgt := 12) hx hb dX5_count_64 (by decide) ?_
          exact ih _ _ _ _ _ _ hf _ _ _ hP hD hS (lv_sub hl [3, 4, 2, 1, 0] rfl) kx
        · have hf := pif hf c_7
          refine lv_iconst (v := (1 : Int32)) hx hb dX5_count_54 (by decide) ?_
          refine lv_goto (tgt := 59) hx hb dX5_count_55 (by decide) ?_
          refine lv_iadd hx hb dX5_count_59 ?_
          refine lv_istore_n (lv' := [(3, .int (l3 + (1 : Int32))), (2, .int (l2 + (1 : Int32))), (0, .ref a_o), (1, .int l1), (4, .int l4)]) hx hb dX5_count_60 rfl hl (by decide) rfl (fun ls hl => ?_)
          refine lv_iinc (v := (l4 + 1)) (lv' := [(4, .int (l4 + 1)), (3, .int (l3 + (1 : Int32))), (2, .int (l2 + (1 : Int32))), (0, .ref a_o), (1, .int l1)]) hx hb dX5_count_61 hl (k := 4) rfl rfl (by decide) rfl (fun ls hl => ?_)
          refine lv_goto (tgt := 12) hx hb dX5_count_64 (by decide) ?_
          exact ih _ _ _ _ _ _ hf _ _ _ hP hD hS (lv_sub hl [3, 4, 2, 1, 0] rfl) kx
set_option maxHeartbeats 4000000 in
set_option maxRecDepth 100000 in
theorem kX5_count (l : Launch) (dC : Nat → ClassId) (dI : Nat → Nat → Nat) (Z : gZ) (cC cI cZ cW : ClassId) (a_o a_o_text a_o_need a_o_made a_o_skillTold a_o_placeTold a_o_skips a_o_wheelTold a_o_tunes a_o_s a_o_spare a_o_kept a_o_isKept a_o_makes a_o_works a_o_order : Nat) (sz : Nat) (o_thrown : Int32) (o_trace : Int64) (o_typed : Int32) (o_next : Int32) (o_token : Int32) (o_place : Int32) (o_value : Int32) (o_fault : Int32) (o_trades : Int32) (o_people : Int32) (o_draftTrades : Int32) (o_draftPeople : Int32) (o_isShut : Int32) (o_falling : Int32) (o_s : Nat → Int32) (i1 : Int32) (N : Nat) (r' : Int32) (o_thrown' : Int32) (hf : fX5_count N o_thrown o_typed o_trades o_people o_s  i1 = some (r', o_thrown')) : Met l yX5_count wsX5_count rmX5_count (va_Pc [.ref a_o, .int i1] (gB (dC, dI) Z [(cC, .char), (cI, .int), (cZ, .boolean), (cW, .object RX3)] [(a_o, .inr (5, [.int o_thrown, .long o_trace, .ref a_o_text, .int o_typed, .int o_next, .int o_token, .int o_place, .int o_value, .int o_fault, .ref a_o_need, .ref a_o_made, .ref a_o_skillTold, .ref a_o_placeTold, .ref a_o_skips, .ref a_o_wheelTold, .int o_trades, .int o_people, .int o_draftTrades, .int o_draftPeople, .int o_isShut, .ref a_o_tunes, .ref a_o_s, .ref a_o_spare, .ref a_o_kept, .ref a_o_isKept, .ref a_o_makes, .ref a_o_works, .ref a_o_order, .int o_falling])), (a_o_s, .inl (cI, 105, .inl o_s))] sz)) (va_Qi (fun (r : Int32) (_ : Unit) => r = r') (gE (dC, dI) [(a_o, .inr (5, [.int o_thrown', .long o_trace, .ref a_o_text, .int o_typed, .int o_next, .int o_token, .int o_place, .int o_value, .int o_fault, .ref a_o_need, .ref a_o_made, .ref a_o_skillTold, .ref a_o_placeTold, .ref a_o_skips, .ref a_o_wheelTold, .int o_trades, .int o_people, .int o_draftTrades, .int o_draftPeople, .int o_isShut, .ref a_o_tunes, .ref a_o_s, .ref a_o_spare, .ref a_o_kept, .ref a_o_isKept, .ref a_o_makes, .ref a_o_works, .ref a_o_order, .int o_falling])), (a_o_s, .inl (cI, 105, .inl o_s))]) (va_A [(a_o, .inr (5, [.int o_thrown, .long o_trace, .ref a_o_text, .int o_typed, .int o_next, .int o_token, .int o_place, .int o_value, .int o_fault, .ref a_o_need, .ref a_o_made, .ref a_o_skillTold, .ref a_o_placeTold, .ref a_o_skips, .ref a_o_wheelTold, .int o_trades, .int o_people, .int o_draftTrades, .int o_draftPeople, .int o_isShut, .ref a_o_tunes, .ref a_o_s, .ref a_o_spare, .ref a_o_kept, .ref a_o_isKept, .ref a_o_makes, .ref a_o_works, .ref a_o_order, .int o_falling])), (a_o_s, .inl (cI, 105, .inl o_s))] sz)) 0 0 (va_A [(a_o, .inr (5, [.int o_thrown, .long o_trace, .ref a_o_text, .int o_typed, .int o_next, .int o_token, .int o_place, .int o_value, .int o_fault, .ref a_o_need, .ref a_o_made, .ref a_o_skillTold, .ref a_o_placeTold, .ref a_o_skips, .ref a_o_wheelTold, .int o_trades, .int o_people, .int o_draftTrades, .int o_draftPeople, .int o_isShut, .ref a_o_tunes, .ref a_o_s, .ref a_o_spare, .ref a_o_kept, .ref a_o_isKept, .ref a_o_makes, .ref a_o_works, .ref a_o_order, .int o_falling])), (a_o_s, .inl (cI, 105, .inl o_s))] sz) := by
  refine gMet (cc := cX5_count) (maxL := 5) (ret := (some .int)) (Qc := fun A => va_Qi (fun (r : Int32) (_ : Unit) => r = r') (gE (dC, dI) [(a_o, .inr (5, [.int o_thrown', .long o_trace, .ref a_o_text, .int o_typed, .int o_next, .int o_token, .int o_place, .int o_value, .int o_fault, .ref a_o_need, .ref a_o_made, .ref a_o_skillTold, .ref a_o_placeTold, .ref a_o_skips, .ref a_o_wheelTold, .int o_trades, .int o_people, .int o_draftTrades, .int o_draftPeople, .int o_isShut, .ref a_o_tunes, .ref a_o_s, .ref a_o_spare, .ref a_o_kept, .ref a_o_isKept, .ref a_o_makes, .ref a_o_works, .ref a_o_order, .int o_falling])), (a_o_s, .inl (cI, 105, .inl o_s))]) A) (by decide) rfl (Nat.le_of_ble_eq_true rfl) ?_
  intro p e s m below meth c A ls hg0 _ hsz hP hD hS hl
  have hg0 : gX p s m _ meth c cX5_count 5 (some .int) wsX5_count RX5 (dC, dI) Z [(cC, .char), (cI, .int), (cZ, .boolean), (cW, .object RX3)] A := hg0
  obtain ⟨hx, hb, hr, hml, hown, hts, hlocks, hA, hK, hN⟩ := id hg0
  subst hsz
  have hF : CallFix p m c cX5_count 5 s _ wsX5_count RX5 := ⟨hx, hb, hml, hown, hts⟩
  have hl : lv_has ls 5 [(0, .ref a_o), (1, .int i1)] := hl
  unfold fX5_count at hf
  refine lv_aload_n hx hb dX5_count_0 rfl (lv_at hl 0 rfl) ?_
  refine lv_iconst (v := (0 : Int32)) hx hb dX5_count_1 (by decide) ?_
  refine va_put (D := (dC, dI)) (ci := 5) (v := .int (0 : Int32)) (ty := .int) (C := RX5) (T := TX5) (N := 29) hx hb hts uX5_count_X5 tyX5 tyX5_ok nmX5 hown hK hP hD hS 0 rfl rfl 0 (by decide) (hts _ mX5_count_0) (fun _ h9 => h9) rfl (by decide +kernel) rfl rfl (Nat.le_of_ble_eq_true rfl) dX5_count_2 (fun H locs hP hD hS => ?_)
  have hP : va_P (dC, dI) vwCl [(a_o, .inr (5, [.int (0 : Int32), .long o_trace, .ref a_o_text, .int o_typed, .int o_next, .int o_token, .int o_place, .int o_value, .int o_fault, .ref a_o_need, .ref a_o_made, .ref a_o_skillTold, .ref a_o_placeTold, .ref a_o_skips, .ref a_o_wheelTold, .int o_trades, .int o_people, .int o_draftTrades, .int o_draftPeople, .int o_isShut, .ref a_o_tunes, .ref a_o_s, .ref a_o_spare, .ref a_o_kept, .ref a_o_isKept, .ref a_o_makes, .ref a_o_works, .ref a_o_order, .int o_falling])), (a_o_s, .inl (cI, 105, .inl o_s))] H := hP
  have hD : va_D A [(a_o, .inr (5, [.int (0 : Int32), .long o_trace, .ref a_o_text, .int o_typed, .int o_next, .int o_token, .int o_place, .int o_value, .int o_fault, .ref a_o_need, .ref a_o_made, .ref a_o_skillTold, .ref a_o_placeTold, .ref a_o_skips, .ref a_o_wheelTold, .int o_trades, .int o_people, .int o_draftTrades, .int o_draftPeople, .int o_isShut, .ref a_o_tunes, .ref a_o_s, .ref a_o_spare, .ref a_o_kept, .ref a_o_isKept, .ref a_o_makes, .ref a_o_works, .ref a_o_order, .int o_falling])), (a_o_s, .inl (cI, 105, .inl o_s))] := hD
  refine lv_iconst (v := (0 : Int32)) hx hb dX5_count_5 (by decide) ?_
  refine lv_istore_n (lv' := [(2, .int (0 : Int32)), (0, .ref a_o), (1, .int i1)]) hx hb dX5_count_6 rfl hl (by decide) rfl (fun ls hl => ?_)
  refine lv_iconst (v := (0 : Int32)) hx hb dX5_count_7 (by decide) ?_
  refine lv_istore_n (lv' := [(3, .int (0 : Int32)), (2, .int (0 : Int32)), (0, .ref a_o), (1, .int i1)]) hx hb dX5_count_8 rfl hl (by decide) rfl (fun ls hl => ?_)
  refine lv_iconst (v := (0 : Int32)) hx hb dX5_count_9 (by decide) ?_
  refine lv_istore (lv' := [(4, .int (0 : Int32)), (3, .int (0 : Int32)), (2, .int (0 : Int32)), (0, .ref a_o), (1, .int i1)]) hx hb dX5_count_10 hl (by decide) rfl (fun ls hl => ?_)
  obtain ⟨l2_1, l3_2, l4_3, hc, hf⟩ := pb3 hf
  refine wX5_count_12 hg0 a_o a_o_text a_o_need a_o_made a_o_skillTold a_o_placeTold a_o_skips a_o_wheelTold a_o_tunes a_o_s a_o_spare a_o_kept a_o_isKept a_o_makes a_o_works a_o_order (0 : Int32) o_trace o_typed o_next o_token o_place o_value o_fault o_trades o_people o_draftTrades o_draftPeople o_isShut o_falling o_s i1 N N (0 : Int32) (0 : Int32) (0 : Int32) l2_1 l3_2 l4_3 hc _ _ _ hP hD hS (lv_sub hl [3, 4, 2, 1, 0] rfl) (fun H locs ls hP hD hS hl => ?_)
  refine lv_iload_n hx hb dX5_count_67 rfl (lv_at hl 1 rfl) ?_
  refine lv_if_ne (tgt := 78) hx hb dX5_count_68 (by decide) (fun c_4 => ?_) (fun c_4 => ?_)
  · have hf := pif hf c_4
    refine lv_iload_n hx hb dX5_count_78 rfl (lv_at hl 1 rfl) ?_
    refine lv_iconst (v := (1 : Int32)) hx hb dX5_count_79 (by decide) ?_
    refine lv_icmp_ne (tgt := 90) hx hb dX5_count_80 (by decide) (fun c_5 => ?_) (fun c_5 => ?_)
    · have hf := pif hf c_5
      refine lv_iload_n hx hb dX5_count_90 rfl (lv_at hl 1 rfl) ?_
      refine lv_iconst (v := (2 : Int32)) hx hb dX5_count_91 (by decide) ?_
      refine lv_icmp_ne (tgt := 99) hx hb dX5_count_92 (by decide) (fun c_6 => ?_) (fun c_6 => ?_)
      · have hf := pif hf c_6
        refine lv_iload_n hx hb dX5_count_99 rfl (lv_at hl 1 rfl) ?_
        refine lv_iconst (v := (3 : Int32)) hx hb dX5_count_100 (by decide) ?_
        refine lv_icmp_ne (tgt := 108) hx hb dX5_count_101 (by decide) (fun c_7 => ?_) (fun c_7 => ?_)
        · have hf := pif hf c_7
          refine lv_iload_n hx hb dX5_count_108 rfl (lv_at hl 1 rfl) ?_
          refine lv_iconst (v := (4 : Int32)) hx hb dX5_count_109 (by decide) ?_
          refine lv_icmp_ne (tgt := 120) hx hb dX5_count_110 (by decide) (fun c_8 => ?_) (fun c_8 => ?_)
          · have hf := pif hf c_8
            refine lv_iconst (v := (-1 : Int32)) hx hb dX5_count_120 (by decide) ?_
            have q0 := Option.some.inj hf
            obtain ⟨e0, q1⟩ := Prod.mk.inj q0
            subst e0
            subst q1
            exact gRi hx hb hr hlocks hP hS dX5_count_121
          · have hf := pit hf c_8
            refine lv_aload_n hx hb dX5_count_113 rfl (lv_at hl 0 rfl) ?_
            refine va_get (D := (dC, dI)) (ci := 5) (v := .int o_typed) (C := RX5) (T := TX5) (N := 29) hx hb hts uX5_count_X5 hown hK hP 0 rfl rfl 3 (by decide) (hts _ mX5_count_3) (fun _ h9 => h9) rfl dX5_count_114 ?_
            refine lv_goto (tgt := 121) hx hb dX5_count_117 (by decide) ?_
            have q0 := Option.some.inj hf
            obtain ⟨e0, q1⟩ := Prod.mk.inj q0
            subst e0
            subst q1
            exact gRi hx hb hr hlocks hP hS dX5_count_121
        · have hf := pit hf c_7
          refine lv_iload_n hx hb dX5_count_104 rfl (lv_at hl 3 rfl) ?_
          refine lv_goto (tgt := 121) hx hb dX5_count_105 (by decide) ?_
          have q0 := Option.some.inj hf
          obtain ⟨e0, q1⟩ := Prod.mk.inj q0
          subst e0
          subst q1
          exact gRi hx hb hr hlocks hP hS dX5_count_121
      · have hf := pit hf c_6
        refine lv_iload_n hx hb dX5_count_95 rfl (lv_at hl 2 rfl) ?_
        refine lv_goto (tgt := 121) hx hb dX5_count_96 (by decide) ?_
        have q0 := Option.some.inj hf
        obtain ⟨e0, q1⟩ := Prod.mk.inj q0
        subst e0
        subst q1
        exact gRi hx hb hr hlocks hP hS dX5_count_121
    · have hf := pit hf c_5
      refine lv_aload_n hx hb dX5_count_83 rfl (lv_at hl 0 rfl) ?_
      refine va_get (D := (dC, dI)) (ci := 5) (v := .int o_people) (C := RX5) (T := TX5) (N := 29) hx hb hts uX5_count_X5 hown hK hP 0 rfl rfl 16 (by decide) (hts _ mX5_count_1) (fun _ h9 => h9) rfl dX5_count_84 ?_
      refine lv_goto (tgt := 121) hx hb dX5_count_87 (by decide) ?_
      have q0 := Option.some.inj hf
      obtain ⟨e0, q1⟩ := Prod.mk.inj q0
      subst e0
      subst q1
      exact gRi hx hb hr hlocks hP hS dX5_count_121
  · have hf := pit hf c_4
    refine lv_aload_n hx hb dX5_count_71 rfl (lv_at hl 0 rfl) ?_
    refine va_get (D := (dC, dI)) (ci := 5) (v := .int o_trades) (C := RX5) (T := TX5) (N := 29) hx hb hts uX5_count_X5 hown hK hP 0 rfl rfl 15 (by decide) (hts _ mX5_count_4) (fun _ h9 => h9) rfl dX5_count_72 ?_
    refine lv_goto (tgt := 121) hx hb dX5_count_75 (by decide) ?_
    have q0 := Option.some.inj hf
    obtain ⟨e0, q1⟩ := Prod.mk.inj q0
    subst e0
    subst q1
    exact gRi hx hb hr hlocks hP hS dX5_count_121
