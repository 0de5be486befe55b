abbrev rmX5_rate : Room := { frames := 2, cells := 0, slots := 0, locals := 43 }
set_option maxRecDepth 20000 in
theorem uX5_rate_X5 : ∀ w ∈ wsX50, w ∈ wsX5_rate := by decide +kernel
set_option maxRecDepth 20000 in
theorem mX5_rate_0 : (Cond.fieldLink RX5 59 "TradeWheelModel" "thrown" "I" : Cond) ∈ wsX5_rate := by decide +kernel
set_option maxRecDepth 20000 in
theorem mX5_rate_1 : (Cond.constant RX5 198 (-1000000) : Cond) ∈ wsX5_rate := by decide +kernel
set_option maxRecDepth 20000 in
theorem mX5_rate_2 : (Cond.fieldLink RX5 137 "TradeWheelModel" "trades" "I" : Cond) ∈ wsX5_rate := by decide +kernel
set_option maxRecDepth 20000 in
theorem mX5_rate_3 : (Cond.fieldLink RX5 34 "TradeWheelModel" "s" "[I" : Cond) ∈ wsX5_rate := by decide +kernel
set_option maxRecDepth 20000 in
theorem mX5_rate_4 : (Cond.fieldLink RX5 199 "TradeWheelModel" "trace" "J" : Cond) ∈ wsX5_rate := by decide +kernel
set_option maxRecDepth 20000 in
theorem mX5_rate_5 : (Cond.constantLong RX5 211 (100001) : Cond) ∈ wsX5_rate := by decide +kernel
set_option maxRecDepth 20000 in
theorem mX5_rate_6 : (Cond.constantLong RX5 209 (10011) : Cond) ∈ wsX5_rate := by decide +kernel
set_option maxRecDepth 20000 in
theorem mX5_rate_7 : (Cond.constantLong RX5 207 (1101) : Cond) ∈ wsX5_rate := by decide +kernel
set_option maxRecDepth 20000 in
theorem mX5_rate_8 : (Cond.constantLong RX5 205 (101) : Cond) ∈ wsX5_rate := by decide +kernel
set_option maxRecDepth 20000 in
theorem mX5_rate_9 : (Cond.constantLong RX5 203 (11) : Cond) ∈ wsX5_rate := by decide +kernel
set_option maxHeartbeats 4000000 in
set_option maxRecDepth 100000 in
theorem wX5_rate_48 {p : Program} {l : Launch} {e : Env} {s : State} {m : MethodId} {args : Array Value} {below : List Frame} {meth : Method} {c : Code} {Q : State → Prop} {A : Nat → Prop} {dC : Nat → ClassId} {dI : Nat → Nat → Nat} {Z : gZ} {cC cI cZ cW : ClassId} (hg0 : gX p s m args meth c cX5_rate 8 (some .int) wsX5_rate RX5 (dC, dI) Z [(cC, .char), (cI, .int), (cZ, .boolean), (cW, .object RX3)] A) (a_o a_o_text a_o_need a_o_made a_o_skillTold a_o_placeTold a_o_skips a_o_wheelTold a_o_tunes a_o_s a_o_spare a_o_kept a_o_isKept a_o_makes a_o_works a_o_order : Nat) (o_thrown : Int32) (o_trace : Int64) (o_typed : Int32) (o_next : Int32) (o_token : Int32) (o_place : Int32) (o_value : Int32) (o_fault : Int32) (o_trades : Int32) (o_people : Int32) (o_draftTrades : Int32) (o_draftPeople : Int32) (o_isShut : Int32) (o_falling : Int32) (o_s : Nat → Int32) (l1 : Int32) (l2 : Int32) (N : Nat) : ∀ (n : Nat) (l3 : Int32) (l4 : Int32) (l5 : Int32) (l6 : Int32) (l3' : Int32) (l4' : Int32) (l5' : Int32) (l6' : Int32), fX5_rate_48 N o_trades o_s l2 n l3 l4 l5 l6 = some (l3', l4', l5', l6') → ∀ (H : Heap) (locs : List Loc) (ls : Array Slot), va_P (dC, dI) vwCl [(a_o, .inr (5, [.int o_thrown, .long o_trace, .ref a_o_text, .int o_typed, .int o_next, .int o_token, .int o_place, .int o_value, .int o_fault, .ref a_o_need, .ref a_o_made, .ref a_o_skillTold, .ref a_o_placeTold, .ref a_o_skips, .ref a_o_wheelTold, .int o_trades, .int o_people, .int o_draftTrades, .int o_draftPeople, .int o_isShut, .ref a_o_tunes, .ref a_o_s, .ref a_o_spare, .ref a_o_kept, .ref a_o_isKept, .ref a_o_makes, .ref a_o_works, .ref a_o_order, .int o_falling])), (a_o_s, .inl (cI, 105, .inl o_s))] H → va_D A [(a_o, .inr (5, [.int o_thrown, .long o_trace, .ref a_o_text, .int o_typed, .int o_next, .int o_token, .int o_place, .int o_value, .int o_fault, .ref a_o_need, .ref a_o_made, .ref a_o_skillTold, .ref a_o_placeTold, .ref a_o_skips, .ref a_o_wheelTold, .int o_trades, .int o_people, .int o_draftTrades, .int o_draftPeople, .int o_isShut, .ref a_o_tunes, .ref a_o_s, .ref a_o_spare, .ref a_o_kept, .ref a_o_isKept, .ref a_o_makes, .ref a_o_works, .ref a_o_order, .int o_falling])), (a_o_s, .inl (cI, 105, .inl o_s))] → va_S A s.heap H locs → lv_has ls 8 [(0, .ref a_o), (1, .int l1), (2, .int l2), (3, .int l3), (4, .int l4), (5, .int l5), (6, .int l6)] → (∀ (H : Heap) (locs : List Loc) (ls : Array Slot), va_P (dC, dI) vwCl [(a_o, .inr (5, [.int o_thrown, .long o_trace, .ref a_o_text, .int o_typed, .int o_next, .int o_token, .int o_place, .int o_value, .int o_fault, .ref a_o_need, .ref a_o_made, .ref a_o_skillTold, .ref a_o_placeTold, .ref a_o_skips, .ref a_o_wheelTold, .int o_trades, .int o_people, .int o_draftTrades, .int o_draftPeople, .int o_isShut, .ref a_o_tunes, .ref a_o_s, .ref a_o_spare, .ref a_o_kept, .ref a_o_isKept, .ref a_o_makes, .ref a_o_works, .ref a_o_order, .int o_falling])), (a_o_s, .inl (cI, 105, .inl o_s))] H → va_D A [(a_o, .inr (5, [.int o_thrown, .long o_trace, .ref a_o_text, .int o_typed, .int o_next, .int o_token, .int o_place, .int o_value, .int o_fault, .ref a_o_need, .ref a_o_made, .ref a_o_skillTold, .ref a_o_placeTold, .ref a_o_skips, .ref a_o_wheelTold, .int o_trades, .int o_people, .int o_draftTrades, .int o_draftPeople, .int o_isShut, .ref a_o_tunes, .ref a_o_s, .ref a_o_spare, .ref a_o_kept, .ref a_o_isKept, .ref a_o_makes, .ref a_o_works, .ref a_o_order, .int o_falling])), (a_o_s, .inl (cI, 105, .inl o_s))] → va_S A s.heap H locs → lv_has ls 8 [(0, .ref a_o), (1, .int l1), (2, .int l2), (3, .int l3'), (4, .int l4'), (5, .int l5')] → W p l e (headSpec wsX5_rate rmX5_rate).room s m args below meth c H locs 0 0 Q (F0 m 117 ls [])) → W p l e (headSpec wsX5_rate rmX5_rate).room s m args below meth c H locs 0 0 Q (F0 m 48 ls []) := by
  obtain ⟨hx, hb, hr, hml, hown, hts, hlocks, hA, hK, hN⟩ := id hg0
  have hF : CallFix p m c cX5_rate 8 s args wsX5_rate RX5 := ⟨hx, hb, hml, hown, hts⟩
  intro n
  induction n with
  | zero =>
    intro l3 l4 l5 l6 l3' l4' l5' l6' hf
    have hf := fX5_rate_48_0.symm.trans hf
    cases hf
  | succ n ih =>
    intro l3 l4 l5 l6 l3' l4' l5' l6' hf H locs ls hP hD hS hl kx
    have hf := fX5_rate_48_s.symm.trans hf
    refine lv_iload hx hb dX5_rate_48 (lv_at hl 6 rfl) ?_
    refine lv_aload_n hx hb dX5_rate_50 rfl (lv_at hl 0 rfl) ?_
    refine va_get (D := (dC, dI)) (ci := 5) (v := .int o_trades) (C := RX5) (T := TX5) (N := 29) hx hb hts uX5_rate_X5 hown hK hP 0 rfl rfl 15 (by decide) (hts _ mX5_rate_2) (fun _ h9 => h9) rfl dX5_rate_51 ?_
    refine lv_icmp_ge (tgt := 117) hx hb dX5_rate_54 (by decide) (fun c_1 => ?_) (fun c_1 => ?_)
    · have hf := pit hf c_1
      have q0 := Option.some.inj hf
      obtain ⟨e0, q1⟩ := Prod.mk.inj q0
      obtain ⟨e1, q2⟩ := Prod.mk.inj q1
      obtain ⟨e2, q3⟩ := Prod.mk.inj q2
      subst e0
      subst e1
      subst e2
      subst q3
      exact kx _ _ _ hP hD hS (lv_sub hl [0, 1, 2, 3, 4, 5] rfl)
    · have hf := pif hf c_1
      refine lv_aload_n hx hb dX5_rate_57 rfl (lv_at hl 0 rfl) ?_
      refine va_get (D := (dC, dI)) (ci := 5) (v := .ref a_o_s) (C := RX5) (T := TX5) (N := 29) hx hb hts uX5_rate_X5 hown hK hP 0 rfl rfl 21 (by decide) (hts _ mX5_rate_3) (fun _ h9 => h9) rfl dX5_rate_58 ?_
      refine lv_bipush (v := (33 : Int32)) hx hb dX5_rate_61 (by decide) ?_
      refine lv_bipush (v := (6 : Int32)) hx hb dX5_rate_63 (by decide) ?_
      refine lv_iload_n hx hb dX5_rate_65 rfl (lv_at hl 2 rfl) ?_
      refine lv_imul hx hb dX5_rate_66 ?_
      refine lv_iadd hx hb dX5_rate_67 ?_
      refine lv_iload hx hb dX5_rate_68 (lv_at hl 6 rfl) ?_
      refine lv_iadd hx hb dX5_rate_70 ?_
      obtain ⟨h_2, hf⟩ := pgd hf
      refine va_iald hx hb hK hP 1 1 rfl rfl h_2 dX5_rate_71 ?_
      refine lv_istore (lv' := [(7, .int (o_s (((33 : Int32) + ((6 : Int32) * l2)) + l6).toNatClampNeg)), (0, .ref a_o), (1, .int l1), (2, .int l2), (3, .int l3), (4, .int l4), (5, .int l5), (6, .int l6)]) hx hb dX5_rate_72 hl (by decide) rfl (fun ls hl => ?_)
      refine lv_iload_n hx hb dX5_rate_74 rfl (lv_at hl 4 rfl) ?_
      refine lv_iload hx hb dX5_rate_75 (lv_at hl 0 rfl) ?_
      refine lv_iadd hx hb dX5_rate_77 ?_
      refine lv_istore_n (lv' := [(3, .int (l3 + (o_s (((33 : Int32) + ((6 : Int32) * l2)) + l6).toNatClampNeg))), (7, .int (o_s (((33 : Int32) + ((6 : Int32) * l2)) + l6).toNatClampNeg)), (0, .ref a_o), (1, .int l1), (2, .int l2), (4, .int l4), (5, .int l5), (6, .int l6)]) hx hb dX5_rate_78 rfl hl (by decide) rfl (fun ls hl => ?_)
      refine lv_iload hx hb dX5_rate_79 (lv_at hl 1 rfl) ?_
      refine lv_iload hx hb dX5_rate_81 (lv_at hl 5 rfl) ?_
      refine lv_icmp_le (tgt := 91) hx hb dX5_rate_83 (by decide) (fun c_3 => ?_) (fun c_3 => ?_)
      · have hf := pit hf c_3
        refine lv_iload hx hb dX5_rate_91 (lv_at hl 5 rfl) ?_
        refine lv_istore (lv' := [(4, .int l4), (3, .int (l3 + (o_s (((33 : Int32) + ((6 : Int32) * l2)) + l6).toNatClampNeg))), (7, .int (o_s (((33 : Int32) + ((6 : Int32) * l2)) + l6).toNatClampNeg)), (0, .ref a_o), (1, .int l1), (2, .int l2), (5, .int l5), (6, .int l6)]) hx hb dX5_rate_93 hl (by decide) rfl (fun ls hl => ?_)
        refine lv_iload hx hb dX5_rate_95 (lv_at hl 2 rfl) ?_
        refine lv_iload hx hb dX5_rate_97 (lv_at hl 6 rfl) ?_
        refine lv_icmp_ge (tgt := 107) hx hb dX5_rate_99 (by decide) (fun c_4 => ?_) (fun c_4 => ?_)
        · have hf := pit hf c_4
          refine lv_iload hx hb dX5_rate_107 (lv_at hl 6 rfl) ?_
          refine lv_istore (lv' := [(5, .int l5), (4, .int l4), (3, .int (l3 + (o_s (((33 : Int32) + ((6 : Int32) * l2)) + l6).toNatClampNeg))), (7, .int (o_s (((33 : Int32) + ((6 : Int32) * l2)) + l6).toNatClampNeg)), (0, .ref a_o), (1, .int l1), (2, .int l2), (6, .int l6)]) hx hb dX5_rate_109 hl (by decide) rfl (fun ls hl => ?_)
          refine lv_iinc (v := (l6 + 1)) (lv' := [(6, .int (l6 + 1)), (5, .int l5), (4, .int l4), (3, .int (l3 + (o_s (((33 : Int32) + ((6 : Int32) * l2)) + l6).toNatClampNeg))), (7, .int (o_s (((33 : Int32) + ((6 : Int32) * l2)) + l6).toNatClampNeg)), (0, .ref a_o), (1, .int l1), (2, .int l2)]) hx hb dX5_rate_111 hl (k := 7) rfl rfl (by decide) rfl (fun ls hl => ?_)
          refine lv_goto (tgt := 48) hx hb dX5_rate_114 (by decide) ?_
          exact ih _ _ _ _ _ _ _ _ hf _ _ _ hP hD hS (lv_sub hl [5, 6, 7, 3, 2, 1, 0] rfl) kx
        · have hf := pif hf c_4
          refine lv_iload hx hb dX5_rate_102 (lv_at hl 2 rfl) ?_
          refine lv_goto (tgt := 109) hx hb dX5_rate_104 (by decide) ?_
          refine lv_istore (lv' := [(5, .int (o_s (((33 : Int32) + ((6 : Int32) * l2)) + l6).toNatClampNeg)), (4, .int l4), (3, .int (l3 + (o_s (((33 : Int32) + ((6 : Int32) * l2)) + l6).toNatClampNeg))), (7, .int (o_s (((33 : Int32) + ((6 : Int32) * l2)) + l6).toNatClampNeg)), (0, .ref a_o), (1, .int l1), (2, .int l2), (6, .int l6)]) hx hb dX5_rate_109 hl (by decide) rfl (fun ls hl => ?_)
          refine lv_iinc (v := (l6 + 1)) (lv' := [(6, .int (l6 + 1)), (5, .int (o_s (((33 : Int32) + ((6 : Int32) * l2)) + l6).toNatClampNeg)), (4, .int l4), (3, .int (l3 + (o_s (((33 : Int32) + ((6 : Int32) * l2)) + l6).toNatClampNeg))), (7, .int (o_s (((33 : Int32) + ((6 : Int32) * l2)) + l6).toNatClampNeg)), (0, .ref a_o), (1, .int l1), (2, .int l2)]) hx hb dX5_rate_111 hl (k := 7) rfl rfl (by decide) rfl (fun ls hl => ?_)
          refine lv_goto (tgt := 48) hx hb dX5_rate_114 (by decide) ?_
          exact ih _ _ _ _ _ _ _ _ hf _ _ _ hP hD hS (lv_sub hl [5, 6, 7, 3, 2, 1, 0] rfl) kx
      · have hf := pif hf c_3
        refine lv_iload hx hb dX5_rate_86 (lv_at hl 1 rfl) ?_
        refine lv_goto (tgt := 93) hx hb dX5_rate_88 (by decide) ?_
        refine lv_istore (lv' := [(4, .int (o_s (((33 : Int32) + ((6 : Int32) * l2)) + l6).toNatClampNeg)), (3, .int (l3 + (o_s (((33 : Int32) + ((6 : Int32) * l2)) + l6).toNatClampNeg))), (7, .int (o_s (((33 : Int32) + ((6 : Int32) * l2)) + l6).toNatClampNeg)), (0, .ref a_o), (1, .int l1), (2, .int l2), (5, .int l5), (6, .int l6)]) hx hb dX5_rate_93 hl (by decide) rfl (fun ls hl => ?_)
        refine lv_iload hx hb dX5_rate_95 (lv_at hl 2 rfl) ?_
        refine lv_iload hx hb dX5_rate_97 (lv_at hl 6 rfl) ?_
        refine lv_icmp_ge (tgt := 107) hx hb dX5_rate_99 (by decide) (fun c_5 => ?_) (fun c_5 => ?_)
        · have hf := pit hf c_5
          refine lv_iload hx hb dX5_rate_107 (lv_at hl 6 rfl) ?_
          refine lv_istore (lv' := [(5, .int l5), (4, .int (o_s (((33 : Int32) + ((6 : Int32) * l2)) + l6).toNatClampNeg)), (3, .int (l3 + (o_s (((33 : Int32) + ((6 : Int32) * l2)) + l6).toNatClampNeg))), (7, .int (o_s (((33 : Int32) + ((6 : Int32) * l2)) + l6).toNatClampNeg)), (0, .ref a_o), (1, .int l1), (2, .int l2), (6, .int l6)]) hx hb dX5_rate_109 hl (by decide) rfl (fun ls hl => ?_)
          refine lv_iinc (v := (l6 + 1)) (lv' := [(6, .int (l6 + 1)), (5, .int l5), (4, .int (o_s (((33 : Int32) + ((6 : Int32) * l2)) + l6).toNatClampNeg)), (3, .int (l3 + (o_s (((33 : Int32) + ((6 : Int32) * l2)) + l6).toNatClampNeg))), (7, .int (o_s (((33 : Int32) + ((6 : Int32) * l2)) + l6).toNatClampNeg)), (0, .ref a_o), (1, .int l1), (2, .int l2)]) hx hb dX5_rate_111 hl (k := 7) rfl rfl (by decide) rfl (fun ls hl => ?_)
          refine lv_goto (tgt := 48) hx hb dX5_rate_114 (by decide) ?_
          exact ih _ _ _ _ _ _ _ _ hf _ _ _ hP hD hS (lv_sub hl [5, 6, 7, 3, 2, 1, 0] rfl) kx
        · have hf := pif hf c_5
          refine lv_iload hx hb dX5_rate_102 (lv_at hl 2 rfl) ?_
          refine lv_goto (tgt := 109) hx hb dX5_rate_104 (by decide) ?_
          refine lv_istore (lv' := [(5, .int (o_s (((33 : Int32) + ((6 : Int32) * l2)) + l6).toNatClampNeg)), (4, .int (o_s (((33 : Int32) + ((6 : Int32) * l2)) + l6).toNatClampNeg)), (3, .int (l3 + (o_s (((33 : Int32) + ((6 : Int32) * l2)) + l6).toNatClampNeg))), (7, .int (o_s (((33 : Int32) + ((6 : Int32) * l2)) + l6).toNatClampNeg)), (0, .ref a_o), (1, .int l1), (2, .int l2), (6, .int l6)]) hx hb dX5_rate_109 hl (by decide) rfl (fun ls hl => ?_)
          refine lv_iinc (v := (l6 + 1)) (lv' := [(6, .int (l6 + 1)), (5, .int (o_s (((33 : Int32) + ((6 : Int32) * l2)) + l6).toNatClampNeg)), (4, .int (o_s (((33 : Int32) + ((6 : Int32) * l2)) + l6).toNatClampNeg)), (3, .int (l3 + (o_s (((33 : Int32) + ((6 : Int32) * l2)) + l6).toNatClampNeg))), (7, .int (o_s (((33 : Int32) + ((6 : Int32) * l2)) + l6).toNatClampNeg)), (0, .ref a_o), (1, .int l1), (2, .int l2)]) hx hb dX5_rate_111 hl (k := 7) rfl rfl (by decide) rfl (fun ls hl => ?_)
          refine lv_goto (tgt := 48) hx hb dX5_rate_114 (by decide) ?_
          exact ih _ _ _ _ _ _ _ _ hf _ _ _ hP hD hS (lv_sub hl [5, 6, 7, 3, 2, 1, 0] rfl) kx
set_option maxHeartbeats 4000000 in
set_option maxRecDepth 100000 in
theorem kX5_rate (l : Launch) (dC : Nat → ClassId) (dI : Nat → Nat → Nat) (Z : gZ) (cC cI cZ cW : ClassId) (a_o a_o_text a_o_need a_o_made a_o_skillTold a_o_placeTold a_o_skips a_o_wheelTold a_o_tunes a_o_s a_o_spare a_o_kept a_o_isKept a_o_makes a_o_works a_o_order : Nat) (sz : Nat) (o_thrown : Int32) (o_trace : Int64) (o_typed : Int32) (o_next : Int32) (o_token : Int32) (o_place : Int32) (o_value : Int32) (o_fault : Int32) (o_trades : Int32) (o_people : Int32) (o_draftTrades : Int32) (o_draftPeople : Int32) (o_isShut : Int32) (o_falling : Int32) (o_s : Nat → Int32) (i1 : Int32) (i2 : Int32) (N : Nat) (r' : Int32) (o_thrown' : Int32) (o_trace' : Int64) (hf : fX5_rate N o_thrown o_trace o_trades o_people o_s  i1 i2 = some (r', o_thrown', o_trace')) : Met l yX5_rate wsX5_rate rmX5_rate (va_Pc [.ref a_o, .int i1, .int i2] (gB (dC, dI) Z [(cC, .char), (cI, .int), (cZ, .boolean), (cW, .object RX3)] [(a_o, .inr (5, [.int o_thrown, .long o_trace, .ref a_o_text, .int o_typed, .int o_next, .int o_token, .int o_place, .int o_value, .int o_fault, .ref a_o_need, .ref a_o_made, .ref a_o_skillTold, .ref a_o_placeTold, .ref a_o_skips, .ref a_o_wheelTold, .int o_trades, .int o_people, .int o_draftTrades, .int o_draftPeople, .int o_isShut, .ref a_o_tunes, .ref a_o_s, .ref a_o_spare, .ref a_o_kept, .ref a_o_isKept, .ref a_o_makes, .ref a_o_works, .ref a_o_order, .int o_falling])), (a_o_s, .inl (cI, 105, .inl o_s))] sz)) (va_Qi (fun (r : Int32) (_ : Unit) => r = r') (gE (dC, dI) [(a_o, .inr (5, [.int o_thrown', .long o_trace', .ref a_o_text, .int o_typed, .int o_next, .int o_token, .int o_place, .int o_value, .int o_fault, .ref a_o_need, .ref a_o_made, .ref a_o_skillTold, .ref a_o_placeTold, .ref a_o_skips, .ref a_o_wheelTold, .int o_trades, .int o_people, .int o_draftTrades, .int o_draftPeople, .int o_isShut, .ref a_o_tunes, .ref a_o_s, .ref a_o_spare, .ref a_o_kept, .ref a_o_isKept, .ref a_o_makes, .ref a_o_works, .ref a_o_order, .int o_falling])), (a_o_s, .inl (cI, 105, .inl o_s))]) (va_A [(a_o, .inr (5, [.int o_thrown, .long o_trace, .ref a_o_text, .int o_typed, .int o_next, .int o_token, .int o_place, .int o_value, .int o_fault, .ref a_o_need, .ref a_o_made, .ref a_o_skillTold, .ref a_o_placeTold, .ref a_o_skips, .ref a_o_wheelTold, .int o_trades, .int o_people, .int o_draftTrades, .int o_draftPeople, .int o_isShut, .ref a_o_tunes, .ref a_o_s, .ref a_o_spare, .ref a_o_kept, .ref a_o_isKept, .ref a_o_makes, .ref a_o_works, .ref a_o_order, .int o_falling])), (a_o_s, .inl (cI, 105, .inl o_s))] sz)) 0 0 (va_A [(a_o, .inr (5, [.int o_thrown, .long o_trace, .ref a_o_text, .int o_typed, .int o_next, .int o_token, .int o_place, .int o_value, .int o_fault, .ref a_o_need, .ref a_o_made, .ref a_o_skillTold, .ref a_o_placeTold, .ref a_o_skips, .ref a_o_wheelTold, .int o_trades, .int o_people, .int o_draftTrades, .int o_draftPeople, .int o_isShut, .ref a_o_tunes, .ref a_o_s, .ref a_o_spare, .ref a_o_kept, .ref a_o_isKept, .ref a_o_makes, .ref a_o_works, .ref a_o_order, .int o_falling])), (a_o_s, .inl (cI, 105, .inl o_s))] sz) := by
  refine gMet (cc := cX5_rate) (maxL := 8) (ret := (some .int)) (Qc := fun A => va_Qi (fun (r : Int32) (_ : Unit) => r = r') (gE (dC, dI) [(a_o, .inr (5, [.int o_thrown', .long o_trace', .ref a_o_text, .int o_typed, .int o_next, .int o_token, .int o_place, .int o_value, .int o_fault, .ref a_o_need, .ref a_o_made, .ref a_o_skillTold, .ref a_o_placeTold, .ref a_o_skips, .ref a_o_wheelTold, .int o_trades, .int o_people, .int o_draftTrades, .int o_draftPeople, .int o_isShut, .ref a_o_tunes, .ref a_o_s, .ref a_o_spare, .ref a_o_kept, .ref a_o_isKept, .ref a_o_makes, .ref a_o_works, .ref a_o_order, .int o_falling])), (a_o_s, .inl (cI, 105, .inl o_s))]) A) (by decide) rfl (Nat.le_of_ble_eq_true rfl) ?_
  intro p e s m below meth c A ls hg0 _ hsz hP hD hS hl
  have hg0 : gX p s m _ meth c cX5_rate 8 (some .int) wsX5_rate RX5 (dC, dI) Z [(cC, .char), (cI, .int), (cZ, .boolean), (cW, .object RX3)] A := hg0
  obtain ⟨hx, hb, hr, hml, hown, hts, hlocks, hA, hK, hN⟩ := id hg0
  subst hsz
  have hF : CallFix p m c cX5_rate 8 s _ wsX5_rate RX5 := ⟨hx, hb, hml, hown, hts⟩
  have hl : lv_has ls 8 [(0, .ref a_o), (1, .int i1), (2, .int i2)] := hl
  unfold fX5_rate at hf
  refine lv_aload_n hx hb dX5_rate_0 rfl (lv_at hl 0 rfl) ?_
  refine lv_iconst (v := (0 : Int32)) hx hb dX5_rate_1 (by decide) ?_
  refine va_put (D := (dC, dI)) (ci := 5) (v := .int (0 : Int32)) (ty := .int) (C := RX5) (T := TX5) (N := 29) hx hb hts uX5_rate_X5 tyX5 tyX5_ok nmX5 hown hK hP hD hS 0 rfl rfl 0 (by decide) (hts _ mX5_rate_0) (fun _ h9 => h9) rfl (by decide +kernel) rfl rfl (Nat.le_of_ble_eq_true rfl) dX5_rate_2 (fun H locs hP hD hS => ?_)
  have hP : va_P (dC, dI) vwCl [(a_o, .inr (5, [.int (0 : Int32), .long o_trace, .ref a_o_text, .int o_typed, .int o_next, .int o_token, .int o_place, .int o_value, .int o_fault, .ref a_o_need, .ref a_o_made, .ref a_o_skillTold, .ref a_o_placeTold, .ref a_o_skips, .ref a_o_wheelTold, .int o_trades, .int o_people, .int o_draftTrades, .int o_draftPeople, .int o_isShut, .ref a_o_tunes, .ref a_o_s, .ref a_o_spare, .ref a_o_kept, .ref a_o_isKept, .ref a_o_makes, .ref a_o_works, .ref a_o_order, .int o_falling])), (a_o_s, .inl (cI, 105, .inl o_s))] H := hP
  have hD : va_D A [(a_o, .inr (5, [.int (0 : Int32), .long o_trace, .ref a_o_text, .int o_typed, .int o_next, .int o_token, .int o_place, .int o_value, .int o_fault, .ref a_o_need, .ref a_o_made, .ref a_o_skillTold, .ref a_o_placeTold, .ref a_o_skips, .ref a_o_wheelTold, .int o_trades, .int o_people, .int o_draftTrades, .int o_draftPeople, .int o_isShut, .ref a_o_tunes, .ref a_o_s, .ref a_o_spare, .ref a_o_kept, .ref a_o_isKept, .ref a_o_makes, .ref a_o_works, .ref a_o_order, .int o_falling])), (a_o_s, .inl (cI, 105, .inl o_s))] := hD
  refine lv_iload_n hx hb dX5_rate_5 rfl (lv_at hl 1 rfl) ?_
  refine lv_iconst (v := (0 : Int32)) hx hb dX5_rate_6 (by decide) ?_
  refine lv_iconst (v := (5 : Int32)) hx hb dX5_rate_7 (by decide) ?_
  obtain ⟨r_1, hc, hf⟩ := pb1 hf
  refine gCi (va_runS (As := [.int i1, .int (0 : Int32), .int (5 : Int32)]) (rest := []) hF (kX5_in l dC dI Z cC cI cZ cW  _  i1 (0 : Int32) (5 : Int32) N r_1 hc) (cwS 3 hts gX5_rate_X5_in rfl rfl rfl (by decide +kernel) ⟨Nat.le_of_ble_eq_true rfl, Nat.le_of_ble_eq_true rfl⟩) (gPS (wc := []) hK hN hA hS hP hD [] rfl rfl) rfl rfl hl.1 rfl (lv_room (Nat.le_of_ble_eq_true rfl)) dX5_rate_8 ⟨Nat.zero_le _, Nat.zero_le _⟩) hP hD hS hA [] rfl rfl rfl (fun H locs hP hD hS => ?_)
  have hP : va_P (dC, dI) vwCl [(a_o, .inr (5, [.int (0 : Int32), .long o_trace, .ref a_o_text, .int o_typed, .int o_next, .int o_token, .int o_place, .int o_value, .int o_fault, .ref a_o_need, .ref a_o_made, .ref a_o_skillTold, .ref a_o_placeTold, .ref a_o_skips, .ref a_o_wheelTold, .int o_trades, .int o_people, .int o_draftTrades, .int o_draftPeople, .int o_isShut, .ref a_o_tunes, .ref a_o_s, .ref a_o_spare, .ref a_o_kept, .ref a_o_isKept, .ref a_o_makes, .ref a_o_works, .ref a_o_order, .int o_falling])), (a_o_s, .inl (cI, 105, .inl o_s))] H := hP
  have hD : va_D A [(a_o, .inr (5, [.int (0 : Int32), .long o_trace, .ref a_o_text, .int o_typed, .int o_next, .int o_token, .int o_place, .int o_value, .int o_fault, .ref a_o_need, .ref a_o_made, .ref a_o_skillTold, .ref a_o_placeTold, .ref a_o_skips, .ref a_o_wheelTold, .int o_trades, .int o_people, .int o_draftTrades, .int o_draftPeople, .int o_isShut, .ref a_o_tunes, .ref a_o_s, .ref a_o_spare, .ref a_o_kept, .ref a_o_isKept, .ref a_o_makes, .ref a_o_works, .ref a_o_order, .int o_falling])), (a_o_s, .inl (cI, 105, .inl o_s))] := hD
  refine lv_if_eq (tgt := 22) hx hb dX5_rate_11 (by decide) (fun c_2 => ?_) (fun c_2 => ?_)
  · have hf := pit hf c_2
    refine lv_ldc (v := (-1000000 : Int32)) hx hb hown (hts _ mX5_rate_1) dX5_rate_22 ?_
    have q0 := Option.some.inj hf
    obtain ⟨e0, q1⟩ := Prod.mk.inj q0
    obtain ⟨e1, q2⟩ := Prod.mk.inj q1
    subst e0
    subst e1
    subst q2
    exact gRi hx hb hr hlocks hP hS dX5_rate_24
  · have hf := pif hf c_2
    refine lv_aload_n hx hb dX5_rate_14 rfl (lv_at hl 0 rfl) ?_
    refine lv_iload_n hx hb dX5_rate_15 rfl (lv_at hl 2 rfl) ?_
    obtain ⟨r_3, hc, hf⟩ := pb1 hf
    refine gCi (va_runV (As := [.int i2]) (rest := []) hF (kX5_isPerson l dC dI Z cC cI cZ cW a_o a_o_text a_o_need a_o_made a_o_skillTold a_o_placeTold a_o_skips a_o_wheelTold a_o_tunes a_o_s a_o_spare a_o_kept a_o_isKept a_o_makes a_o_works a_o_order _ (0 : Int32) o_trace o_typed o_next o_token o_place o_value o_fault o_trades o_people o_draftTrades o_draftPeople o_isShut o_falling i2 N r_3 hc) (cwV 1 hts gX5_rate_X5_isPerson rfl rfl rfl (by decide +kernel) ⟨Nat.le_of_ble_eq_true rfl, Nat.le_of_ble_eq_true rfl⟩) (gPV (wc := [(a_o, .inr (5, [.int (0 : Int32), .long o_trace, .ref a_o_text, .int o_typed, .int o_next, .int o_token, .int o_place, .int o_value, .int o_fault, .ref a_o_need, .ref a_o_made, .ref a_o_skillTold, .ref a_o_placeTold, .ref a_o_skips, .ref a_o_wheelTold, .int o_trades, .int o_people, .int o_draftTrades, .int o_draftPeople, .int o_isShut, .ref a_o_tunes, .ref a_o_s, .ref a_o_spare, .ref a_o_kept, .ref a_o_isKept, .ref a_o_makes, .ref a_o_works, .ref a_o_order, .int o_falling]))]) hK hN hA hS hP hD [0] rfl rfl (q0 := 0) (ci := 5) rfl rfl rfl) rfl rfl hl.1 rfl (lv_room (Nat.le_of_ble_eq_true rfl)) dX5_rate_16 ⟨Nat.zero_le _, Nat.zero_le _⟩) hP hD hS hA [0] rfl rfl rfl (fun H locs hP hD hS => ?_)
    have hP : va_P (dC, dI) vwCl [(a_o, .inr (5, [.int (0 : Int32), .long o_trace, .ref a_o_text, .int o_typed, .int o_next, .int o_token, .int o_place, .int o_value, .int o_fault, .ref a_o_need, .ref a_o_made, .ref a_o_skillTold, .ref a_o_placeTold, .ref a_o_skips, .ref a_o_wheelTold, .int o_trades, .int o_people, .int o_draftTrades, .int o_draftPeople, .int o_isShut, .ref a_o_tunes, .ref a_o_s, .ref a_o_spare, .ref a_o_kept, .ref a_o_isKept, .ref a_o_makes, .ref a_o_works, .ref a_o_order, .int o_falling])), (a_o_s, .inl (cI, 105, .inl o_s))] H := hP
    have hD : va_D A [(a_o, .inr (5, [.int (0 : Int32), .long o_trace, .ref a_o_text, .int o_typed, .int o_next, .int o_token, .int o_place, .int o_value, .int o_fault, .ref a_o_need, .ref a_o_made, .ref a_o_skillTold, .ref a_o_placeTold, .ref a_o_skips, .ref a_o_wheelTold, .int o_trades, .int o_people, .int o_draftTrades, .int o_draftPeople, .int o_isShut, .ref a_o_tunes, .ref a_o_s, .ref a_o_spare, .ref a_o_kept, .ref a_o_isKept, .ref a_o_makes, .ref a_o_works, .ref a_o_order, .int o_falling])), (a_o_s, .inl (cI, 105, .inl o_s))] := hD
    refine lv_if_ne (tgt := 25) hx hb dX5_rate_19 (by decide) (fun c_4 => ?_) (fun c_4 => ?_)
    · have hf := pif hf c_4
      refine lv_iconst (v := (0 : Int32)) hx hb dX5_rate_25 (by decide) ?_
      refine lv_istore_n (lv' := [(3, .int (0 : Int32)), (0, .ref a_o), (1, .int i1), (2, .int i2)]) hx hb dX5_rate_26 rfl hl (by decide) rfl (fun ls hl => ?_)
      refine lv_iconst (v := (0 : Int32)) hx hb dX5_rate_27 (by decide) ?_
      refine lv_istore (lv' := [(4, .int (0 : Int32)), (3, .int (0 : Int32)), (0, .ref a_o), (1, .int i1), (2, .int i2)]) hx hb dX5_rate_28 hl (by decide) rfl (fun ls hl => ?_)
      refine lv_aload_n hx hb dX5_rate_30 rfl (lv_at hl 2 rfl) ?_
      refine va_get (D := (dC, dI)) (ci := 5) (v := .int o_trades) (C := RX5) (T := TX5) (N := 29) hx hb hts uX5_rate_X5 hown hK hP 0 rfl rfl 15 (by decide) (hts _ mX5_rate_2) (fun _ h9 => h9) rfl dX5_rate_31 ?_
      refine lv_if_ne (tgt := 41) hx hb dX5_rate_34 (by decide) (fun c_5 => ?_) (fun c_5 => ?_)
      · have hf := pif hf c_5
        refine lv_bipush (v := (9 : Int32)) hx hb dX5_rate_41 (by decide) ?_
        refine lv_istore (lv' := [(5, .int (9 : Int32)), (4, .int (0 : Int32)), (3, .int (0 : Int32)), (0, .ref a_o), (1, .int i1), (2, .int i2)]) hx hb dX5_rate_43 hl (by decide) rfl (fun ls hl => ?_)
        refine lv_iconst (v := (0 : Int32)) hx hb dX5_rate_45 (by decide) ?_
        refine lv_istore (lv' := [(6, .int (0 : Int32)), (5, .int (9 : Int32)), (4, .int (0 : Int32)), (3, .int (0 : Int32)), (0, .ref a_o), (1, .int i1), (2, .int i2)]) hx hb dX5_rate_46 hl (by decide) rfl (fun ls hl => ?_)
        obtain ⟨l3_6, l4_7, l5_8, l6_9, hc, hf⟩ := pb4 hf
        refine wX5_rate_48 hg0 a_o a_o_text a_o_need a_o_made a_o_skillTold a_o_placeTold a_o_skips a_o_wheelTold a_o_tunes a_o_s a_o_spare a_o_kept a_o_isKept a_o_makes a_o_works a_o_order (0 : Int32) o_trace o_typed o_next o_token o_place o_value o_fault o_trades o_people o_draftTrades o_draftPeople o_isShut o_falling o_s i1 i2 N N (0 : Int32) (0 : Int32) (9 : Int32) (0 : Int32) l3_6 l4_7 l5_8 l6_9 hc _ _ _ hP hD hS (lv_sub hl [4, 5, 6, 3, 2, 1, 0] rfl) (fun H locs ls hP hD hS hl => ?_)
        refine lv_iload_n hx hb dX5_rate_117 rfl (lv_at hl 3 rfl) ?_
        refine lv_aload_n hx hb dX5_rate_118 rfl (lv_at hl 0 rfl) ?_
        refine va_get (D := (dC, dI)) (ci := 5) (v := .ref a_o_s) (C := RX5) (T := TX5) (N := 29) hx hb hts uX5_rate_X5 hown hK hP 0 rfl rfl 21 (by decide) (hts _ mX5_rate_3) (fun _ h9 => h9) rfl dX5_rate_119 ?_
        refine lv_bipush (v := (20 : Int32)) hx hb dX5_rate_122 (by decide) ?_
        refine lv_iload_n hx hb dX5_rate_124 rfl (lv_at hl 2 rfl) ?_
        refine lv_iadd hx hb dX5_rate_125 ?_
        obtain ⟨h_10, hf⟩ := pgd hf
        refine va_iald hx hb hK hP 1 1 rfl rfl h_10 dX5_rate_126 ?_
        refine lv_iadd hx hb dX5_rate_127 ?_
        refine lv_istore (lv' := [(6, .int (l3_6 + (o_s ((20 : Int32) + i2).toNatClampNeg))), (0, .ref a_o), (1, .int i1), (2, .int i2), (3, .int l3_6), (4, .int l4_7), (5, .int l5_8)]) hx hb dX5_rate_128 hl (by decide) rfl (fun ls hl => ?_)
        refine lv_aload_n hx hb dX5_rate_130 rfl (lv_at hl 1 rfl) ?_
        refine lv_dup hx hb dX5_rate_131 rfl ?_
        refine va_get (D := (dC, dI)) (ci := 5) (v := .long o_trace) (C := RX5) (T := TX5) (N := 29) hx hb hts uX5_rate_X5 hown hK hP 0 rfl rfl 1 (by decide) (hts _ mX5_rate_4) (fun _ h9 => h9) rfl dX5_rate_132 ?_
        refine lv_iload_n hx hb dX5_rate_135 rfl (lv_at hl 2 rfl) ?_
        refine lv_if_ne (tgt := 143) hx hb dX5_rate_136 (by decide) (fun c_11 => ?_) (fun c_11 => ?_)
        · have hf := pif hf c_11
          refine lv_iload_n hx hb dX5_rate_143 rfl (lv_at hl 2 rfl) ?_
          refine lv_iconst (v := (1 : Int32)) hx hb dX5_rate_144 (by decide) ?_
          refine lv_icmp_ne (tgt := 154) hx hb dX5_rate_145 (by decide) (fun c_12 => ?_) (fun c_12 => ?_)
          · have hf := pif hf c_12
            refine lv_iload_n hx hb dX5_rate_154 rfl (lv_at hl 2 rfl) ?_
            refine lv_iconst (v := (2 : Int32)) hx hb dX5_rate_155 (by decide) ?_
            refine lv_icmp_ne (tgt := 165) hx hb dX5_rate_156 (by decide) (fun c_13 => ?_) (fun c_13 => ?_)
            · have hf := pif hf c_13
              refine lv_iload_n hx hb dX5_rate_165 rfl (lv_at hl 2 rfl) ?_
              refine lv_iconst (v := (3 : Int32)) hx hb dX5_rate_166 (by decide) ?_
              refine lv_icmp_ne (tgt := 176) hx hb dX5_rate_167 (by decide) (fun c_14 => ?_) (fun c_14 => ?_)
              · have hf := pif hf c_14
                refine lv_iload_n hx hb dX5_rate_176 rfl (lv_at hl 2 rfl) ?_
                refine lv_iconst (v := (4 : Int32)) hx hb dX5_rate_177 (by decide) ?_
                refine lv_icmp_ne (tgt := 187) hx hb dX5_rate_178 (by decide) (fun c_15 => ?_) (fun c_15 => ?_)
                · have hf := pif hf c_15
                  refine lv_ldc2 (v := (100001 : Int64)) hx hb hown (hts _ mX5_rate_5) dX5_rate_187 ?_
                  refine lv_ladd hx hb dX5_rate_190 ?_
                  refine lv_topl (fun tl_16 etl_16 => ?_)
                  rw [← etl_16] at hf
                  refine va_put (D := (dC, dI)) (ci := 5) (v := .long tl_16) (ty := .long) (C := RX5) (T := TX5) (N := 29) hx hb hts uX5_rate_X5 tyX5 tyX5_ok nmX5 hown hK hP hD hS 0 rfl rfl 1 (by decide) (hts _ mX5_rate_4) (fun _ h9 => h9) rfl (by decide +kernel) rfl rfl (Nat.le_of_ble_eq_true rfl) dX5_rate_191 (fun H locs hP hD hS => ?_)
                  have hP : va_P (dC, dI) vwCl [(a_o, .inr (5, [.int (0 : Int32), .long tl_16, .ref a_o_text, .int o_typed, .int o_next, .int o_token, .int o_place, .int o_value, .int o_fault, .ref a_o_need, .ref a_o_made, .ref a_o_skillTold, .ref a_o_placeTold, .ref a_o_skips, .ref a_o_wheelTold, .int o_trades, .int o_people, .int o_draftTrades, .int o_draftPeople, .int o_isShut, .ref a_o_tunes, .ref a_o_s, .ref a_o_spare, .ref a_o_kept, .ref a_o_isKept, .ref a_o_makes, .ref a_o_works, .ref a_o_order, .int o_falling])), (a_o_s, .inl (cI, 105, .inl o_s))] H := hP
                  have hD : va_D A [(a_o, .inr (5, [.int (0 : Int32), .long tl_16, .ref a_o_text, .int o_typed, .int o_next, .int o_token, .int o_place, .int o_value, .int o_fault, .ref a_o_need, .ref a_o_made, .ref a_o_skillTold, .ref a_o_placeTold, .ref a_o_skips, .ref a_o_wheelTold, .int o_trades, .int o_people, .int o_draftTrades, .int o_draftPeople, .int o_isShut, .ref a_o_tunes, .ref a_o_s, .ref a_o_spare, .ref a_o_kept, .ref a_o_isKept, .ref a_o_makes, .ref a_o_works, .ref a_o_order, .int o_falling])), (a_o_s, .inl (cI, 105, .inl o_s))] := hD
                  refine lv_iload_n hx hb dX5_rate_194 rfl (lv_at hl 2 rfl) ?_
                  refine lv_if_ne (tgt := 202) hx hb dX5_rate_195 (by decide) (fun c_17 => ?_) (fun c_17 => ?_)
                  · have hf := pif hf c_17
                    refine lv_iload_n hx hb dX5_rate_202 rfl (lv_at hl 2 rfl) ?_
                    refine lv_iconst (v := (1 : Int32)) hx hb dX5_rate_203 (by decide) ?_
                    refine lv_icmp_ne (tgt := 212) hx hb dX5_rate_204 (by decide) (fun c_18 => ?_) (fun c_18 => ?_)
                    · have hf := pif hf c_18
                      refine lv_iload_n hx hb dX5_rate_212 rfl (lv_at hl 2 rfl) ?_
                      refine lv_iconst (v := (2 : Int32)) hx hb dX5_rate_213 (by decide) ?_
                      refine lv_icmp_ne (tgt := 224) hx hb dX5_rate_214 (by decide) (fun c_19 => ?_) (fun c_19 => ?_)
                      · have hf := pif hf c_19
                        refine lv_iload_n hx hb dX5_rate_224 rfl (lv_at hl 2 rfl) ?_
                        refine lv_iconst (v := (3 : Int32)) hx hb dX5_rate_225 (by decide) ?_
                        refine lv_icmp_ne (tgt := 238) hx hb dX5_rate_226 (by decide) (fun c_20 => ?_) (fun c_20 => ?_)
                        · have hf := pif hf c_20
                          refine lv_iload_n hx hb dX5_rate_238 rfl (lv_at hl 2 rfl) ?_
                          refine lv_iconst (v := (4 : Int32)) hx hb dX5_rate_239 (by decide) ?_
                          refine lv_icmp_ne (tgt := 251) hx hb dX5_rate_240 (by decide) (fun c_21 => ?_) (fun c_21 => ?_)
                          · have hf := pif hf c_21
                            refine lv_iload_n hx hb dX5_rate_251 rfl (lv_at hl 4 rfl) ?_
                            refine lv_aload_n hx hb dX5_rate_252 rfl (lv_at hl 1 rfl) ?_
                            refine va_get (D := (dC, dI)) (ci := 5) (v := .ref a_o_s) (C := RX5) (T := TX5) (N := 29) hx hb hts uX5_rate_X5 hown hK hP 0 rfl rfl 21 (by decide) (hts _ mX5_rate_3) (fun _ h9 => h9) rfl dX5_rate_253 ?_
                            refine lv_iconst (v := (0 : Int32)) hx hb dX5_rate_256 (by decide) ?_
                            obtain ⟨h_22, hf⟩ := pgd hf
                            refine va_iald hx hb hK hP 1 1 rfl rfl h_22 dX5_rate_257 ?_
                            refine lv_isub hx hb dX5_rate_258 ?_
                            have q0 := Option.some.inj hf
                            obtain ⟨e0, q1⟩ := Prod.mk.inj q0
                            obtain ⟨e1, q2⟩ := Prod.mk.inj q1
                            subst e0
                            subst e1
                            subst q2
                            exact gRi hx hb hr hlocks hP hS dX5_rate_259
                          · have hf := pit hf c_21
                            refine lv_iload hx hb dX5_rate_243 (lv_at hl 0 rfl) ?_
                            refine lv_iload hx hb dX5_rate_245 (lv_at hl 6 rfl) ?_
                            refine lv_isub hx hb dX5_rate_247 ?_
                            refine lv_goto (tgt := 259) hx hb dX5_rate_248 (by decide) ?_
                            have q0 := Option.some.inj hf
                            obtain ⟨e0, q1⟩ := Prod.mk.inj q0
                            obtain ⟨e1, q2⟩ := Prod.mk.inj q1
                            subst e0
                            subst e1
                            subst q2
                            exact gRi hx hb hr hlocks hP hS dX5_rate_259
                        · have hf := pit hf c_20
                          refine lv_iconst (v := (2 : Int32)) hx hb dX5_rate_229 (by decide) ?_
                          refine lv_iload_n hx hb dX5_rate_230 rfl (lv_at hl 4 rfl) ?_
                          refine lv_iload hx hb dX5_rate_231 (lv_at hl 5 rfl) ?_
                          refine lv_iadd hx hb dX5_rate_233 ?_
                          refine lv_imul hx hb dX5_rate_234 ?_
                          refine lv_goto (tgt := 259) hx hb dX5_rate_235 (by decide) ?_
                          have q0 := Option.some.inj hf
                          obtain ⟨e0, q1⟩ := Prod.mk.inj q0
                          obtain ⟨e1, q2⟩ := Prod.mk.inj q1
                          subst e0
                          subst e1
                          subst q2
                          exact gRi hx hb hr hlocks hP hS dX5_rate_259
                      · have hf := pit hf c_19
                        refine lv_iload_n hx hb dX5_rate_217 rfl (lv_at hl 4 rfl) ?_
                        refine lv_iload hx hb dX5_rate_218 (lv_at hl 5 rfl) ?_
                        refine lv_iadd hx hb dX5_rate_220 ?_
                        refine lv_goto (tgt := 259) hx hb dX5_rate_221 (by decide) ?_
                        have q0 := Option.some.inj hf
                        obtain ⟨e0, q1⟩ := Prod.mk.inj q0
                        obtain ⟨e1, q2⟩ := Prod.mk.inj q1
                        subst e0
                        subst e1
                        subst q2
                        exact gRi hx hb hr hlocks hP hS dX5_rate_259
                    · have hf := pit hf c_18
                      refine lv_iload hx hb dX5_rate_207 (lv_at hl 0 rfl) ?_
                      refine lv_goto (tgt := 259) hx hb dX5_rate_209 (by decide) ?_
                      have q0 := Option.some.inj hf
                      obtain ⟨e0, q1⟩ := Prod.mk.inj q0
                      obtain ⟨e1, q2⟩ := Prod.mk.inj q1
                      subst e0
                      subst e1
                      subst q2
                      exact gRi hx hb hr hlocks hP hS dX5_rate_259
                  · have hf := pit hf c_17
                    refine lv_iload_n hx hb dX5_rate_198 rfl (lv_at hl 4 rfl) ?_
                    refine lv_goto (tgt := 259) hx hb dX5_rate_199 (by decide) ?_
                    have q0 := Option.some.inj hf
                    obtain ⟨e0, q1⟩ := Prod.mk.inj q0
                    obtain ⟨e1, q2⟩ := Prod.mk.inj q1
                    subst e0
                    subst e1
                    subst q2
                    exact gRi hx hb hr hlocks hP hS dX5_rate_259
                · have hf := pit hf c_15
                  refine lv_ldc2 (v := (10011 : Int64)) hx hb hown (hts _ mX5_rate_6) dX5_rate_181 ?_
                  refine lv_goto (tgt := 190) hx hb dX5_rate_184 (by decide) ?_
                  refine lv_ladd hx hb dX5_rate_190 ?_
                  refine lv_topl (fun tl_23 etl_23 => ?_)
                  rw [← etl_23] at hf
                  refine va_put (D := (dC, dI)) (ci := 5) (v := .long tl_23) (ty := .long) (C := RX5) (T := TX5) (N := 29) hx hb hts uX5_rate_X5 tyX5 tyX5_ok nmX5 hown hK hP hD hS 0 rfl rfl 1 (by decide) (hts _ mX5_rate_4) (fun _ h9 => h9) rfl (by decide +kernel) rfl rfl (Nat.le_of_ble_eq_true rfl) dX5_rate_191 (fun H locs hP hD hS => ?_)
                  have hP : va_P (dC, dI) vwCl [(a_o, .inr (5, [.int (0 : Int32), .long tl_23, .ref a_o_text, .int o_typed, .int o_next, .int o_token, .int o_place, .int o_value, .int o_fault, .ref a_o_need, .ref a_o_made, .ref a_o_skillTold, .ref a_o_placeTold, .ref a_o_skips, .ref a_o_wheelTold, .int o_trades, .int o_people, .int o_draftTrades, .int o_draftPeople, .int o_isShut, .ref a_o_tunes, .ref a_o_s, .ref a_o_spare, .ref a_o_kept, .ref a_o_isKept, .ref a_o_makes, .ref a_o_works, .ref a_o_order, .int o_falling])), (a_o_s, .inl (cI, 105, .inl o_s))] H := hP
                  have hD : va_D A [(a_o, .inr (5, [.int (0 : Int32), .long tl_23, .ref a_o_text, .int o_typed, .int o_next, .int o_token, .int o_place, .int o_value, .int o_fault, .ref a_o_need, .ref a_o_made, .ref a_o_skillTold, .ref a_o_placeTold, .ref a_o_skips, .ref a_o_wheelTold, .int o_trades, .int o_people, .int o_draftTrades, .int o_draftPeople, .int o_isShut, .ref a_o_tunes, .ref a_o_s, .ref a_o_spare, .ref a_o_kept, .ref a_o_isKept, .ref a_o_makes, .ref a_o_works, .ref a_o_order, .int o_falling])), (a_o_s, .inl (cI, 105, .inl o_s))] := hD
                  refine lv_iload_n hx hb dX5_rate_194 rfl (lv_at hl 2 rfl) ?_
                  refine lv_if_ne (tgt := 202) hx hb dX5_rate_195 (by decide) (fun c_24 => ?_) (fun c_24 => ?_)
                  · have hf := pif hf c_24
                    refine lv_iload_n hx hb dX5_rate_202 rfl (lv_at hl 2 rfl) ?_
                    refine lv_iconst (v := (1 : Int32)) hx hb dX5_rate_203 (by decide) ?_
                    refine lv_icmp_ne (tgt := 212) hx hb dX5_rate_204 (by decide) (fun c_25 => ?_) (fun c_25 => ?_)
                    · have hf := pif hf c_25
                      refine lv_iload_n hx hb dX5_rate_212 rfl (lv_at hl 2 rfl) ?_
                      refine lv_iconst (v := (2 : Int32)) hx hb dX5_rate_213 (by decide) ?_
                      refine lv_icmp_ne (tgt := 224) hx hb dX5_rate_214 (by decide) (fun c_26 => ?_) (fun c_26 => ?_)
                      · have hf := pif hf c_26
                        refine lv_iload_n hx hb dX5_rate_224 rfl (lv_at hl 2 rfl) ?_
                        refine lv_iconst (v := (3 : Int32)) hx hb dX5_rate_225 (by decide) ?_
                        refine lv_icmp_ne (tgt := 238) hx hb dX5_rate_226 (by decide) (fun c_27 => ?_) (fun c_27 => ?_)
                        · have hf := pif hf c_27
                          refine lv_iload_n hx hb dX5_rate_238 rfl (lv_at hl 2 rfl) ?_
                          refine lv_iconst (v := (4 : Int32)) hx hb dX5_rate_239 (by decide) ?_
                          refine lv_icmp_ne (tgt := 251) hx hb dX5_rate_240 (by decide) (fun c_28 => ?_) (fun c_28 => ?_)
                          · have hf := pif hf c_28
                            refine lv_iload_n hx hb dX5_rate_251 rfl (lv_at hl 4 rfl) ?_
                            refine lv_aload_n hx hb dX5_rate_252 rfl (lv_at hl 1 rfl) ?_
                            refine va_get (D := (dC, dI)) (ci := 5) (v := .ref a_o_s) (C := RX5) (T := TX5) (N := 29) hx hb hts uX5_rate_X5 hown hK hP 0 rfl rfl 21 (by decide) (hts _ mX5_rate_3) (fun _ h9 => h9) rfl dX5_rate_253 ?_
                            refine lv_iconst (v := (0 : Int32)) hx hb dX5_rate_256 (by decide) ?_
                            obtain ⟨h_29, hf⟩ := pgd hf
                            refine va_iald hx hb hK hP 1 1 rfl rfl h_29 dX5_rate_257 ?_
                            refine lv_isub hx hb dX5_rate_258 ?_
                            have q0 := Option.some.inj hf
                            obtain ⟨e0, q1⟩ := Prod.mk.inj q0
                            obtain ⟨e1, q2⟩ := Prod.mk.inj q1
                            subst e0
                            subst e1
                            subst q2
                            exact gRi hx hb hr hlocks hP hS dX5_rate_259
                          · have hf := pit hf c_28
                            refine lv_iload hx hb dX5_rate_243 (lv_at hl 0 rfl) ?_
                            refine lv_iload hx hb dX5_rate_245 (lv_at hl 6 rfl) ?_
                            refine lv_isub hx hb dX5_rate_247 ?_
                            refine lv_goto (tgt := 259) hx hb dX5_rate_248 (by decide) ?_
                            have q0 := Option.some.inj hf
                            obtain ⟨e0, q1⟩ := Prod.mk.inj q0
                            obtain ⟨e1, q2⟩ := Prod.mk.inj q1
                            subst e0
                            subst e1
                            subst q2
                            exact gRi hx hb hr hlocks hP hS dX5_rate_259
                        · have hf := pit hf c_27
                          refine lv_iconst (v := (2 : Int32)) hx hb dX5_rate_229 (by decide) ?_
                          refine lv_iload_n hx hb dX5_rate_230 rfl (lv_at hl 4 rfl) ?_
                          refine lv_iload hx hb dX5_rate_231 (lv_at hl 5 rfl) ?_
                          refine lv_iadd hx hb dX5_rate_233 ?_
                          refine lv_imul hx hb dX5_rate_234 ?_
                          refine lv_goto (tgt := 259) hx hb dX5_rate_235 (by decide) ?_
                          have q0 := Option.some.inj hf
                          obtain ⟨e0, q1⟩ := Prod.mk.inj q0
                          obtain ⟨e1, q2⟩ := Prod.mk.inj q1
                          subst e0
                          subst e1
                          subst q2
                          exact gRi hx hb hr hlocks hP hS dX5_rate_259
                      · have hf := pit hf c_26
                        refine lv_iload_n hx hb dX5_rate_217 rfl (lv_at hl 4 rfl) ?_
                        refine lv_iload hx hb dX5_rate_218 (lv_at hl 5 rfl) ?_
                        refine lv_iadd hx hb dX5_rate_220 ?_
                        refine lv_goto (tgt := 259) hx hb dX5_rate_221 (by decide) ?_
                        have q0 := Option.some.inj hf
                        obtain ⟨e0, q1⟩ := Prod.mk.inj q0
                        obtain ⟨e1, q2⟩ := Prod.mk.inj q1
                        subst e0
                        subst e1
                        subst q2
                        exact gRi hx hb hr hlocks hP hS dX5_rate_259
                    · have hf := pit hf c_25
                      refine lv_iload hx hb dX5_rate_207 (lv_at hl 0 rfl) ?_
                      refine lv_goto (tgt := 259) hx hb dX5_rate_209 (by decide) ?_
                      have q0 := Option.some.inj hf
                      obtain ⟨e0, q1⟩ := Prod.mk.inj q0
                      obtain ⟨e1, q2⟩ := Prod.mk.inj q1
                      subst e0
                      subst e1
                      subst q2
                      exact gRi hx hb hr hlocks hP hS dX5_rate_259
                  · have hf := pit hf c_24
                    refine lv_iload_n hx hb dX5_rate_198 rfl (lv_at hl 4 rfl) ?_
                    refine lv_goto (tgt := 259) hx hb dX5_rate_199 (by decide) ?_
                    have q0 := Option.some.inj hf
                    obtain ⟨e0, q1⟩ := Prod.mk.inj q0
                    obtain ⟨e1, q2⟩ := Prod.mk.inj q1
                    subst e0
                    subst e1
                    subst q2
                    exact gRi hx hb hr hlocks hP hS dX5_rate_259
              · have hf := pit hf c_14
                refine lv_ldc2 (v := (1101 : Int64)) hx hb hown (hts _ mX5_rate_7) dX5_rate_170 ?_
                refine lv_goto (tgt := 190) hx hb dX5_rate_173 (by decide) ?_
                refine lv_ladd hx hb dX5_rate_190 ?_
                refine va_put (D := (dC, dI)) (ci := 5) (v := .long (o_trace + (1101 : Int64))) (ty := .long) (C := RX5) (T := TX5) (N := 29) hx hb hts uX5_rate_X5 tyX5 tyX5_ok nmX5 hown hK hP hD hS 0 rfl rfl 1 (by decide) (hts _ mX5_rate_4) (fun _ h9 => h9) rfl (by decide +kernel) rfl rfl (Nat.le_of_ble_eq_true rfl) dX5_rate_191 (fun H locs hP hD hS => ?_)
                have hP : va_P (dC, dI) vwCl [(a_o, .inr (5, [.int (0 : Int32), .long (o_trace + (1101 : Int64)), .ref a_o_text, .int o_typed, .int o_next, .int o_token, .int o_place, .int o_value, .int o_fault, .ref a_o_need, .ref a_o_made, .ref a_o_skillTold, .ref a_o_placeTold, .ref a_o_skips, .ref a_o_wheelTold, .int o_trades, .int o_people, .int o_draftTrades, .int o_draftPeople, .int o_isShut, .ref a_o_tunes, .ref a_o_s, .ref a_o_spare, .ref a_o_kept, .ref a_o_isKept, .ref a_o_makes, .ref a_o_works, .ref a_o_order, .int o_falling])), (a_o_s, .inl (cI, 105, .inl o_s))] H := hP
                have hD : va_D A [(a_o, .inr (5, [.int (0 : Int32), .long (o_trace + (1101 : Int64)), .ref a_o_text, .int o_typed, .int o_next, .int o_token, .int o_place, .int o_value, .int o_fault, .ref a_o_need, .ref a_o_made, .ref a_o_skillTold, .ref a_o_placeTold, .ref a_o_skips, .ref a_o_wheelTold, .int o_trades, .int o_people, .int o_draftTrades, .int o_draftPeople, .int o_isShut, .ref a_o_tunes, .ref a_o_s, .ref a_o_spare, .ref a_o_kept, .ref a_o_isKept, .ref a_o_makes, .ref a_o_works, .ref a_o_order, .int o_falling])), (a_o_s, .inl (cI, 105, .inl o_s))] := hD
                refine lv_iload_n hx hb dX5_rate_194 rfl (lv_at hl 2 rfl) ?_
                refine lv_if_ne (tgt := 202) hx hb dX5_rate_195 (by decide) (fun c_30 => ?_) (fun c_30 => ?_)
                · have hf := pif hf c_30
                  refine lv_iload_n hx hb dX5_rate_202 rfl (lv_at hl 2 rfl) ?_
                  refine lv_iconst (v := (1 : Int32)) hx hb dX5_rate_203 (by decide) ?_
                  refine lv_icmp_ne (tgt := 212) hx hb dX5_rate_204 (by decide) (fun c_31 => ?_) (fun c_31 => ?_)
                  · have hf := pif hf c_31
                    refine lv_iload_n hx hb dX5_rate_212 rfl (lv_at hl 2 rfl) ?_
                    refine lv_iconst (v := (2 : Int32)) hx hb dX5_rate_213 (by decide) ?_
                    refine lv_icmp_ne (tgt := 224) hx hb dX5_rate_214 (by decide) (fun c_32 => ?_) (fun c_32 => ?_)
                    · have hf := pif hf c_32
                      refine lv_iload_n hx hb dX5_rate_224 rfl (lv_at hl 2 rfl) ?_
                      refine lv_iconst (v := (3 : Int32)) hx hb dX5_rate_225 (by decide) ?_
                      refine lv_icmp_ne (tgt := 238) hx hb dX5_rate_226 (by decide) (fun c_33 => ?_) (fun c_33 => ?_)
                      · have hf := pif hf c_33
                        refine lv_iload_n hx hb dX5_rate_238 rfl (lv_at hl 2 rfl) ?_
                        refine lv_iconst (v := (4 : Int32)) hx hb dX5_rate_239 (by decide) ?_
                        refine lv_icmp_ne (tgt := 251) hx hb dX5_rate_240 (by decide) (fun c_34 => ?_) (fun c_34 => ?_)
                        · have hf := pif hf c_34
                          refine lv_iload_n hx hb dX5_rate_251 rfl (lv_at hl 4 rfl) ?_
                          refine lv_aload_n hx hb dX5_rate_252 rfl (lv_at hl 1 rfl) ?_
                          refine va_get (D := (dC, dI)) (ci := 5) (v := .ref a_o_s) (C := RX5) (T := TX5) (N := 29) hx hb hts uX5_rate_X5 hown hK hP 0 rfl rfl 21 (by decide) (hts _ mX5_rate_3) (fun _ h9 => h9) rfl dX5_rate_253 ?_
                          refine lv_iconst (v := (0 : Int32)) hx hb dX5_rate_256 (by decide) ?_
                          obtain ⟨h_35, hf⟩ := pgd hf
                          refine va_iald hx hb hK hP 1 1 rfl rfl h_35 dX5_rate_257 ?_
                          refine lv_isub hx hb dX5_rate_258 ?_
                          have q0 := Option.some.inj hf
                          obtain ⟨e0, q1⟩ := Prod.mk.inj q0
                          obtain ⟨e1, q2⟩ := Prod.mk.inj q1
                          subst e0
                          subst e1
                          subst q2
                          exact gRi hx hb hr hlocks hP hS dX5_rate_259
                        · have hf := pit hf c_34
                          refine lv_iload hx hb dX5_rate_243 (lv_at hl 0 rfl) ?_
                          refine lv_iload hx hb dX5_rate_245 (lv_at hl 6 rfl) ?_
                          refine lv_isub hx hb dX5_rate_247 ?_
                          refine lv_goto (tgt := 259) hx hb dX5_rate_248 (by decide) ?_
                          have q0 := Option.some.inj hf
                          obtain ⟨e0, q1⟩ := Prod.mk.inj q0
                          obtain ⟨e1, q2⟩ := Prod.mk.inj q1
                          subst e0
                          subst e1
                          subst q2
                          exact gRi hx hb hr hlocks hP hS dX5_rate_259
                      · have hf := pit hf c_33
                        refine lv_iconst (v := (2 : Int32)) hx hb dX5_rate_229 (by decide) ?_
                        refine lv_iload_n hx hb dX5_rate_230 rfl (lv_at hl 4 rfl) ?_
                        refine lv_iload hx hb dX5_rate_231 (lv_at hl 5 rfl) ?_
                        refine lv_iadd hx hb dX5_rate_233 ?_
                        refine lv_imul hx hb dX5_rate_234 ?_
                        refine lv_goto (tgt := 259) hx hb dX5_rate_235 (by decide) ?_
                        have q0 := Option.some.inj hf
                        obtain ⟨e0, q1⟩ := Prod.mk.inj q0
                        obtain ⟨e1, q2⟩ := Prod.mk.inj q1
                        subst e0
                        subst e1
                        subst q2
                        exact gRi hx hb hr hlocks hP hS dX5_rate_259
                    · have hf := pit hf c_32
                      refine lv_iload_n hx hb dX5_rate_217 rfl (lv_at hl 4 rfl) ?_
                      refine lv_iload hx hb dX5_rate_218 (lv_at hl 5 rfl) ?_
                      refine lv_iadd hx hb dX5_rate_220 ?_
                      refine lv_goto (tgt := 259) hx hb dX5_rate_221 (by decide) ?_
                      have q0 := Option.some.inj hf
                      obtain ⟨e0, q1⟩ := Prod.mk.inj q0
                      obtain ⟨e1, q2⟩ := Prod.mk.inj q1
                      subst e0
                      subst e1
                      subst q2
                      exact gRi hx hb hr hlocks hP hS dX5_rate_259
                  · have hf := pit hf c_31
                    refine lv_iload hx hb dX5_rate_207 (lv_at hl 0 rfl) ?_
                    refine lv_goto (tgt := 259) hx hb dX5_rate_209 (by decide) ?_
                    have q0 := Option.some.inj hf
                    obtain ⟨e0, q1⟩ := Prod.mk.inj q0
                    obtain ⟨e1, q2⟩ := Prod.mk.inj q1
                    subst e0
                    subst e1
                    subst q2
                    exact gRi hx hb hr hlocks hP hS dX5_rate_259
                · have hf := pit hf c_30
                  refine lv_iload_n hx hb dX5_rate_198 rfl (lv_at hl 4 rfl) ?_
                  refine lv_goto (tgt := 259) hx hb dX5_rate_199 (by decide) ?_
                  have q0 := Option.some.inj hf
                  obtain ⟨e0, q1⟩ := Prod.mk.inj q0
                  obtain ⟨e1, q2⟩ := Prod.mk.inj q1
                  subst e0
                  subst e1
                  subst q2
                  exact gRi hx hb hr hlocks hP hS dX5_rate_259
            · have hf := pit hf c_13
              refine lv_ldc2 (v := (101 : Int64)) hx hb hown (hts _ mX5_rate_8) dX5_rate_159 ?_
              refine lv_goto (tgt := 190) hx hb dX5_rate_162 (by decide) ?_
              refine lv_ladd hx hb dX5_rate_190 ?_
              refine va_put (D := (dC, dI)) (ci := 5) (v := .long (o_trace + (101 : Int64))) (ty := .long) (C := RX5) (T := TX5) (N := 29) hx hb hts uX5_rate_X5 tyX5 tyX5_ok nmX5 hown hK hP hD hS 0 rfl rfl 1 (by decide) (hts _ mX5_rate_4) (fun _ h9 => h9) rfl (by decide +kernel) rfl rfl (Nat.le_of_ble_eq_true rfl) dX5_rate_191 (fun H locs hP hD hS => ?_)
              have hP : va_P (dC, dI) vwCl [(a_o, .inr (5, [.int (0 : Int32), .long (o_trace + (101 : Int64)), .ref a_o_text, .int o_typed, .int o_next, .int o_token, .int o_place, .int o_value, .int o_fault, .ref a_o_need, .ref a_o_made, .ref a_o_skillTold, .ref a_o_placeTold, .ref a_o_skips, .ref a_o_wheelTold, .int o_trades, .int o_people, .int o_draftTrades, .int o_draftPeople, .int o_isShut, .ref a_o_tunes, .ref a_o_s, .ref a_o_spare, .ref a_o_kept, .ref a_o_isKept, .ref a_o_makes, .ref a_o_works, .ref a_o_order, .int o_falling])), (a_o_s, .inl (cI, 105, .inl o_s))] H := hP
              have hD : va_D A [(a_o, .inr (5, [.int (0 : Int32), .long (o_trace + (101 : Int64)), .ref a_o_text, .int o_typed, .int o_next, .int o_token, .int o_place, .int o_value, .int o_fault, .ref a_o_need, .ref a_o_made, .ref a_o_skillTold, .ref a_o_placeTold, .ref a_o_skips, .ref a_o_wheelTold, .int o_trades, .int o_people, .int o_draftTrades, .int o_draftPeople, .int o_isShut, .ref a_o_tunes, .ref a_o_s, .ref a_o_spare, .ref a_o_kept, .ref a_o_isKept, .ref a_o_makes, .ref a_o_works, .ref a_o_order, .int o_falling])), (a_o_s, .inl (cI, 105, .inl o_s))] := hD
              refine lv_iload_n hx hb dX5_rate_194 rfl (lv_at hl 2 rfl) ?_
              refine lv_if_ne (tgt := 202) hx hb dX5_rate_195 (by decide) (fun c_36 => ?_) (fun c_36 => ?_)
              · have hf := pif hf c_36
                refine lv_iload_n hx hb dX5_rate_202 rfl (lv_at hl 2 rfl) ?_
                refine lv_iconst (v := (1 : Int32)) hx hb dX5_rate_203 (by decide) ?_
                refine lv_icmp_ne (tgt := 212) hx hb dX5_rate_204 (by decide) (fun c_37 => ?_) (fun c_37 => ?_)
                · have hf := pif hf c_37
                  refine lv_iload_n hx hb dX5_rate_212 rfl (lv_at hl 2 rfl) ?_
                  refine lv_iconst (v := (2 : Int32)) hx hb dX5_rate_213 (by decide) ?_
                  refine lv_icmp_ne (tgt := 224) hx hb dX5_rate_214 (by decide) (fun c_38 => ?_) (fun c_38 => ?_)
                  · have hf := pif hf c_38
                    refine lv_iload_n hx hb dX5_rate_224 rfl (lv_at hl 2 rfl) ?_
                    refine lv_iconst (v := (3 : Int32)) hx hb dX5_rate_225 (by decide) ?_
                    refine lv_icmp_ne (tgt := 238) hx hb dX5_rate_226 (by decide) (fun c_39 => ?_) (fun c_39 => ?_)
                    · have hf := pif hf c_39
                      refine lv_iload_n hx hb dX5_rate_238 rfl (lv_at hl 2 rfl) ?_
                      refine lv_iconst (v := (4 : Int32)) hx hb dX5_rate_239 (by decide) ?_
                      refine lv_icmp_ne (tgt := 251) hx hb dX5_rate_240 (by decide) (fun c_40 => ?_) (fun c_40 => ?_)
                      · have hf := pif hf c_40
                        refine lv_iload_n hx hb dX5_rate_251 rfl (lv_at hl 4 rfl) ?_
                        refine lv_aload_n hx hb dX5_rate_252 rfl (lv_at hl 1 rfl) ?_
                        refine va_get (D := (dC, dI)) (ci := 5) (v := .ref a_o_s) (C := RX5) (T := TX5) (N := 29) hx hb hts uX5_rate_X5 hown hK hP 0 rfl rfl 21 (by decide) (hts _ mX5_rate_3) (fun _ h9 => h9) rfl dX5_rate_253 ?_
                        refine lv_iconst (v := (0 : Int32)) hx hb dX5_rate_256 (by decide) ?_
                        obtain ⟨h_41, hf⟩ := pgd hf
                        refine va_iald hx hb hK hP 1 1 rfl rfl h_41 dX5_rate_257 ?_
                        refine lv_isub hx hb dX5_rate_258 ?_
                        have q0 := Option.some.inj hf
                        obtain ⟨e0, q1⟩ := Prod.mk.inj q0
                        obtain ⟨e1, q2⟩ := Prod.mk.inj q1
                        subst e0
                        subst e1
                        subst q2
                        exact gRi hx hb hr hlocks hP hS dX5_rate_259
                      · have hf := pit hf c_40
                        refine lv_iload hx hb dX5_rate_243 (lv_at hl 0 rfl) ?_
                        refine lv_iload hx hb dX5_rate_245 (lv_at hl 6 rfl) ?_
                        refine lv_isub hx hb dX5_rate_247 ?_
                        refine lv_goto (tgt := 259) hx hb dX5_rate_248 (by decide) ?_
                        have q0 := Option.some.inj hf
                        obtain ⟨e0, q1⟩ := Prod.mk.inj q0
                        obtain ⟨e1, q2⟩ := Prod.mk.inj q1
                        subst e0
                        subst e1
                        subst q2
                        exact gRi hx hb hr hlocks hP hS dX5_rate_259
                    · have hf := pit hf c_39
                      refine lv_iconst (v := (2 : Int32)) hx hb dX5_rate_229 (by decide) ?_
                      refine lv_iload_n hx hb dX5_rate_230 rfl (lv_at hl 4 rfl) ?_
                      refine lv_iload hx hb dX5_rate_231 (lv_at hl 5 rfl) ?_
                      refine lv_iadd hx hb dX5_rate_233 ?_
                      refine lv_imul hx hb dX5_rate_234 ?_
                      refine lv_goto (tgt := 259) hx hb dX5_rate_235 (by decide) ?_
                      have q0 := Option.some.inj hf
                      obtain ⟨e0, q1⟩ := Prod.mk.inj q0
                      obtain ⟨e1, q2⟩ := Prod.mk.inj q1
                      subst e0
                      subst e1
                      subst q2
                      exact gRi hx hb hr hlocks hP hS dX5_rate_259
                  · have hf := pit hf c_38
                    refine lv_iload_n hx hb dX5_rate_217 rfl (lv_at hl 4 rfl) ?_
                    refine lv_iload hx hb dX5_rate_218 (lv_at hl 5 rfl) ?_
                    refine lv_iadd hx hb dX5_rate_220 ?_
                    refine lv_goto (tgt := 259) hx hb dX5_rate_221 (by decide) ?_
                    have q0 := Option.some.inj hf
                    obtain ⟨e0, q1⟩ := Prod.mk.inj q0
                    obtain ⟨e1, q2⟩ := Prod.mk.inj q1
                    subst e0
                    subst e1
                    subst q2
                    exact gRi hx hb hr hlocks hP hS dX5_rate_259
                · have hf := pit hf c_37
                  refine lv_iload hx hb dX5_rate_207 (lv_at hl 0 rfl) ?_
                  refine lv_goto (tgt := 259) hx hb dX5_rate_209 (by decide) ?_
                  have q0 := Option.some.inj hf
                  obtain ⟨e0, q1⟩ := Prod.mk.inj q0
                  obtain ⟨e1, q2⟩ := Prod.mk.inj q1
                  subst e0
                  subst e1
                  subst q2
                  exact gRi hx hb hr hlocks hP hS dX5_rate_259
              · have hf := pit hf c_36
                refine lv_iload_n hx hb dX5_rate_198 rfl (lv_at hl 4 rfl) ?_
                refine lv_goto (tgt := 259) hx hb dX5_rate_199 (by decide) ?_
                have q0 := Option.some.inj hf
                obtain ⟨e0, q1⟩ := Prod.mk.inj q0
                obtain ⟨e1, q2⟩ := Prod.mk.inj q1
                subst e0
                subst e1
                subst q2
                exact gRi hx hb hr hlocks hP hS dX5_rate_259
          · have hf := pit hf c_12
            refine lv_ldc2 (v := (11 : Int64)) hx hb hown (hts _ mX5_rate_9) dX5_rate_148 ?_
            refine lv_goto (tgt := 190) hx hb dX5_rate_151 (by decide) ?_
            refine lv_ladd hx hb dX5_rate_190 ?_
            refine va_put (D := (dC, dI)) (ci := 5) (v := .long (o_trace + (11 : Int64))) (ty := .long) (C := RX5) (T := TX5) (N := 29) hx hb hts uX5_rate_X5 tyX5 tyX5_ok nmX5 hown hK hP hD hS 0 rfl rfl 1 (by decide) (hts _ mX5_rate_4) (fun _ h9 => h9) rfl (by decide +kernel) rfl rfl (Nat.le_of_ble_eq_true rfl) dX5_rate_191 (fun H locs hP hD hS => ?_)
            have hP : va_P (dC, dI) vwCl [(a_o, .inr (5, [.int (0 : Int32), .long (o_trace + (11 : Int64)), .ref a_o_text, .int o_typed, .int o_next, .int o_token, .int o_place, .int o_value, .int o_fault, .ref a_o_need, .ref a_o_made, .ref a_o_skillTold, .ref a_o_placeTold, .ref a_o_skips, .ref a_o_wheelTold, .int o_trades, .int o_people, .int o_draftTrades, .int o_draftPeople, .int o_isShut, .ref a_o_tunes, .ref a_o_s, .ref a_o_spare, .ref a_o_kept, .ref a_o_isKept, .ref a_o_makes, .ref a_o_works, .ref a_o_order, .int o_falling])), (a_o_s, .inl (cI, 105, .inl o_s))] H := hP
            have hD : va_D A [(a_o, .inr (5, [.int (0 : Int32), .long (o_trace + (11 : Int64)), .ref a_o_text, .int o_typed, .int o_next, .int o_token, .int o_place, .int o_value, .int o_fault, .ref a_o_need, .ref a_o_made, .ref a_o_skillTold, .ref a_o_placeTold, .ref a_o_skips, .ref a_o_wheelTold, .int o_trades, .int o_people, .int o_draftTrades, .int o_draftPeople, .int o_isShut, .ref a_o_tunes, .ref a_o_s, .ref a_o_spare, .ref a_o_kept, .ref a_o_isKept, .ref a_o_makes, .ref a_o_works, .ref a_o_order, .int o_falling])), (a_o_s, .inl (cI, 105, .inl o_s))] := hD
            refine lv_iload_n hx hb dX5_rate_194 rfl (lv_at hl 2 rfl) ?_
            refine lv_if_ne (tgt := 202) hx hb dX5_rate_195 (by decide) (fun c_42 => ?_) (fun c_42 => ?_)
            · have hf := pif hf c_42
              refine lv_iload_n hx hb dX5_rate_202 rfl (lv_at hl 2 rfl) ?_
              refine lv_iconst (v := (1 : Int32)) hx hb dX5_rate_203 (by decide) ?_
              refine lv_icmp_ne (tgt := 212) hx hb dX5_rate_204 (by decide) (fun c_43 => ?_) (fun c_43 => ?_)
              · have hf := pif hf c_43
                refine lv_iload_n hx hb dX5_rate_212 rfl (lv_at hl 2 rfl) ?_
                refine lv_iconst (v := (2 : Int32)) hx hb dX5_rate_213 (by decide) ?_
                refine lv_icmp_ne (tgt := 224) hx hb dX5_rate_214 (by decide) (fun c_44 => ?_) (fun c_44 => ?_)
                · have hf := pif hf c_44
                  refine lv_iload_n hx hb dX5_rate_224 rfl (lv_at hl 2 rfl) ?_
                  refine lv_iconst (v := (3 : Int32)) hx hb dX5_rate_225 (by decide) ?_
                  refine lv_icmp_ne (tgt := 238) hx hb dX5_rate_226 (by decide) (fun c_45 => ?_) (fun c_45 => ?_)
                  · have hf := pif hf c_45
                    refine lv_iload_n hx hb dX5_rate_238 rfl (lv_at hl 2 rfl) ?_
                    refine lv_iconst (v := (4 : Int32)) hx hb dX5_rate_239 (by decide) ?_
                    refine lv_icmp_ne (tgt := 251) hx hb dX5_rate_240 (by decide) (fun c_46 => ?_) (fun c_46 => ?_)
                    · have hf := pif hf c_46
                      refine lv_iload_n hx hb dX5_rate_251 rfl (lv_at hl 4 rfl) ?_
                      refine lv_aload_n hx hb dX5_rate_252 rfl (lv_at hl 1 rfl) ?_
                      refine va_get (D := (dC, dI)) (ci := 5) (v := .ref a_o_s) (C := RX5) (T := TX5) (N := 29) hx hb hts uX5_rate_X5 hown hK hP 0 rfl rfl 21 (by decide) (hts _ mX5_rate_3) (fun _ h9 => h9) rfl dX5_rate_253 ?_
                      refine lv_iconst (v := (0 : Int32)) hx hb dX5_rate_256 (by decide) ?_
                      obtain ⟨h_47, hf⟩ := pgd hf
                      refine va_iald hx hb hK hP 1 1 rfl rfl h_47 dX5_rate_257 ?_
                      refine lv_isub hx hb dX5_rate_258 ?_
                      have q0 := Option.some.inj hf
                      obtain ⟨e0, q1⟩ := Prod.mk.inj q0
                      obtain ⟨e1, q2⟩ := Prod.mk.inj q1
                      subst e0
                      subst e1
                      subst q2
                      exact gRi hx hb hr hlocks hP hS dX5_rate_259
                    · have hf := pit hf c_46
                      refine lv_iload hx hb dX5_rate_243 (lv_at hl 0 rfl) ?_
                      refine lv_iload hx hb dX5_rate_245 (lv_at hl 6 rfl) ?_
                      refine lv_isub hx hb dX5_rate_247 ?_
                      refine lv_goto (tgt := 259) hx hb dX5_rate_248 (by decide) ?_
                      have q0 := Option.some.inj hf
                      obtain ⟨e0, q1⟩ := Prod.mk.inj q0
                      obtain ⟨e1, q2⟩ := Prod.mk.inj q1
                      subst e0
                      subst e1
                      subst q2
                      exact gRi hx hb hr hlocks hP hS dX5_rate_259
                  · have hf := pit hf c_45
                    refine lv_iconst (v := (2 : Int32)) hx hb dX5_rate_229 (by decide) ?_
                    refine lv_iload_n hx hb dX5_rate_230 rfl (lv_at hl 4 rfl) ?_
                    refine lv_iload hx hb dX5_rate_231 (lv_at hl 5 rfl) ?_
                    refine lv_iadd hx hb dX5_rate_233 ?_
                    refine lv_imul hx hb dX5_rate_234 ?_
                    refine lv_goto (tgt := 259) hx hb dX5_rate_235 (by decide) ?_
                    have q0 := Option.some.inj hf
                    obtain ⟨e0, q1⟩ := Prod.mk.inj q0
                    obtain ⟨e1, q2⟩ := Prod.mk.inj q1
                    subst e0
                    subst e1
                    subst q2
                    exact gRi hx hb hr hlocks hP hS dX5_rate_259
                · have hf := pit hf c_44
                  refine lv_iload_n hx hb dX5_rate_217 rfl (lv_at hl 4 rfl) ?_
                  refine lv_iload hx hb dX5_rate_218 (lv_at hl 5 rfl) ?_
                  refine lv_iadd hx hb dX5_rate_220 ?_
                  refine lv_goto (tgt := 259) hx hb dX5_rate_221 (by decide) ?_
                  have q0 := Option.some.inj hf
                  obtain ⟨e0, q1⟩ := Prod.mk.inj q0
                  obtain ⟨e1, q2⟩ := Prod.mk.inj q1
                  subst e0
                  subst e1
                  subst q2
                  exact gRi hx hb hr hlocks hP hS dX5_rate_259
              · have hf := pit hf c_43
                refine lv_iload hx hb dX5_rate_207 (lv_at hl 0 rfl) ?_
                refine lv_goto (tgt := 259) hx hb dX5_rate_209 (by decide) ?_
                have q0 := Option.some.inj hf
                obtain ⟨e0, q1⟩ := Prod.mk.inj q0
                obtain ⟨e1, q2⟩ := Prod.mk.inj q1
                subst e0
                subst e1
                subst q2
                exact gRi hx hb hr hlocks hP hS dX5_rate_259
            · have hf := pit hf c_42
              refine lv_iload_n hx hb dX5_rate_198 rfl (lv_at hl 4 rfl) ?_
              refine lv_goto (tgt := 259) hx hb dX5_rate_199 (by decide) ?_
              have q0 := Option.some.inj hf
              obtain ⟨e0, q1⟩ := Prod.mk.inj q0
              obtain ⟨e1, q2⟩ := Prod.mk.inj q1
              subst e0
              subst e1
              subst q2
              exact gRi hx hb hr hlocks hP hS dX5_rate_259
        · have hf := pit hf c_11
          refine lv_lconst (v := (1 : Int64)) hx hb dX5_rate_139 (by decide) ?_
          refine lv_goto (tgt := 190) hx hb dX5_rate_140 (by decide) ?_
          refine lv_ladd hx hb dX5_rate_190 ?_
          refine va_put (D := (dC, dI)) (ci := 5) (v := .long (o_trace + (1 : Int64))) (ty := .long) (C := RX5) (T := TX5) (N := 29) hx hb hts uX5_rate_X5 tyX5 tyX5_ok nmX5 hown hK hP hD hS 0 rfl rfl 1 (by decide) (hts _ mX5_rate_4) (fun _ h9 => h9) rfl (by decide +kernel) rfl rfl (Nat.le_of_ble_eq_true rfl) dX5_rate_191 (fun H locs hP hD hS => ?_)
          have hP : va_P (dC, dI) vwCl [(a_o, .inr (5, [.int (0 : Int32), .long (o_trace + (1 : Int64)), .ref a_o_text, .int o_typed, .int o_next, .int o_token, .int o_place, .int o_value, .int o_fault, .ref a_o_need, .ref a_o_made, .ref a_o_skillTold, .ref a_o_placeTold, .ref a_o_skips, .ref a_o_wheelTold, .int o_trades, .int o_people, .int o_draftTrades, .int o_draftPeople, .int o_isShut, .ref a_o_tunes, .ref a_o_s, .ref a_o_spare, .ref a_o_kept, .ref a_o_isKept, .ref a_o_makes, .ref a_o_works, .ref a_o_order, .int o_falling])), (a_o_s, .inl (cI, 105, .inl o_s))] H := hP
          have hD : va_D A [(a_o, .inr (5, [.int (0 : Int32), .long (o_trace + (1 : Int64)), .ref a_o_text, .int o_typed, .int o_next, .int o_token, .int o_place, .int o_value, .int o_fault, .ref a_o_need, .ref a_o_made, .ref a_o_skillTold, .ref a_o_placeTold, .ref a_o_skips, .ref a_o_wheelTold, .int o_trades, .int o_people, .int o_draftTrades, .int o_draftPeople, .int o_isShut, .ref a_o_tunes, .ref a_o_s, .ref a_o_spare, .ref a_o_kept, .ref a_o_isKept, .ref a_o_makes, .ref a_o_works, .ref a_o_order, .int o_falling])), (a_o_s, .inl (cI, 105, .inl o_s))] := hD
          refine lv_iload_n hx hb dX5_rate_194 rfl (lv_at hl 2 rfl) ?_
          refine lv_if_ne (tgt := 202) hx hb dX5_rate_195 (by decide) (fun c_48 => ?_) (fun c_48 => ?_)
          · have hf := pif hf c_48
            refine lv_iload_n hx hb dX5_rate_202 rfl (lv_at hl 2 rfl) ?_
            refine lv_iconst (v := (1 : Int32)) hx hb dX5_rate_203 (by decide) ?_
            refine lv_icmp_ne (tgt := 212) hx hb dX5_rate_204 (by decide) (fun c_49 => ?_) (fun c_49 => ?_)
            · have hf := pif hf c_49
              refine lv_iload_n hx hb dX5_rate_212 rfl (lv_at hl 2 rfl) ?_
              refine lv_iconst (v := (2 : Int32)) hx hb dX5_rate_213 (by decide) ?_
              refine lv_icmp_ne (tgt := 224) hx hb dX5_rate_214 (by decide) (fun c_50 => ?_) (fun c_50 => ?_)
              · have hf := pif hf c_50
                refine lv_iload_n hx hb dX5_rate_224 rfl (lv_at hl 2 rfl) ?_
                refine lv_iconst (v := (3 : Int32)) hx hb dX5_rate_225 (by decide) ?_
                refine lv_icmp_ne (tgt := 238) hx hb dX5_rate_226 (by decide) (fun c_51 => ?_) (fun c_51 => ?_)
                · have hf := pif hf c_51
                  refine lv_iload_n hx hb dX5_rate_238 rfl (lv_at hl 2 rfl) ?_
                  refine lv_iconst (v := (4 : Int32)) hx hb dX5_rate_239 (by decide) ?_
                  refine lv_icmp_ne (tgt := 251) hx hb dX5_rate_240 (by decide) (fun c_52 => ?_) (fun c_52 => ?_)
                  · have hf := pif hf c_52
                    refine lv_iload_n hx hb dX5_rate_251 rfl (lv_at hl 4 rfl) ?_
                    refine lv_aload_n hx hb dX5_rate_252 rfl (lv_at hl 1 rfl) ?_
                    refine va_get (D := (dC, dI)) (ci := 5) (v := .ref a_o_s) (C := RX5) (T := TX5) (N := 29) hx hb hts uX5_rate_X5 hown hK hP 0 rfl rfl 21 (by decide) (hts _ mX5_rate_3) (fun _ h9 => h9) rfl dX5_rate_253 ?_
                    refine lv_iconst (v := (0 : Int32)) hx hb dX5_rate_256 (by decide) ?_
                    obtain ⟨h_53, hf⟩ := pgd hf
                    refine va_iald hx hb hK hP 1 1 rfl rfl h_53 dX5_rate_257 ?_
                    refine lv_isub hx hb dX5_rate_258 ?_
                    have q0 := Option.some.inj hf
                    obtain ⟨e0, q1⟩ := Prod.mk.inj q0
                    obtain ⟨e1, q2⟩ := Prod.mk.inj q1
                    subst e0
                    subst e1
                    subst q2
                    exact gRi hx hb hr hlocks hP hS dX5_rate_259
                  · have hf := pit hf c_52
                    refine lv_iload hx hb dX5_rate_243 (lv_at hl 0 rfl) ?_
                    refine lv_iload hx hb dX5_rate_245 (lv_at hl 6 rfl) ?_
                    refine lv_isub hx hb dX5_rate_247 ?_
                    refine lv_goto (tgt := 259) hx hb dX5_rate_248 (by decide) ?_
                    have q0 := Option.some.inj hf
                    obtain ⟨e0, q1⟩ := Prod.mk.inj q0
                    obtain ⟨e1, q2⟩ := Prod.mk.inj q1
                    subst e0
                    subst e1
                    subst q2
                    exact gRi hx hb hr hlocks hP hS dX5_rate_259
                · have hf := pit hf c_51
                  refine lv_iconst (v := (2 : Int32)) hx hb dX5_rate_229 (by decide) ?_
                  refine lv_iload_n hx hb dX5_rate_230 rfl (lv_at hl 4 rfl) ?_
                  refine lv_iload hx hb dX5_rate_231 (lv_at hl 5 rfl) ?_
                  refine lv_iadd hx hb dX5_rate_233 ?_
                  refine lv_imul hx hb dX5_rate_234 ?_
                  refine lv_goto (tgt := 259) hx hb dX5_rate_235 (by decide) ?_
                  have q0 := Option.some.inj hf
                  obtain ⟨e0, q1⟩ := Prod.mk.inj q0
                  obtain ⟨e1, q2⟩ := Prod.mk.inj q1
                  subst e0
                  subst e1
                  subst q2
                  exact gRi hx hb hr hlocks hP hS dX5_rate_259
              · have hf := pit hf c_50
                refine lv_iload_n hx hb dX5_rate_217 rfl (lv_at hl 4 rfl) ?_
                refine lv_iload hx hb dX5_rate_218 (lv_at hl 5 rfl) ?_
                refine lv_iadd hx hb dX5_rate_220 ?_
                refine lv_goto (tgt := 259) hx hb dX5_rate_221 (by decide) ?_
                have q0 := Option.some.inj hf
                obtain ⟨e0, q1⟩ := Prod.mk.inj q0
                obtain ⟨e1, q2⟩ := Prod.mk.inj q1
                subst e0
                subst e1
                subst q2
                exact gRi hx hb hr hlocks hP hS dX5_rate_259
            · have hf := pit hf c_49
              refine lv_iload hx hb dX5_rate_207 (lv_at hl 0 rfl) ?_
              refine lv_goto (tgt := 259) hx hb dX5_rate_209 (by decide) ?_
              have q0 := Option.some.inj hf
              obtain ⟨e0, q1⟩ := Prod.mk.inj q0
              obtain ⟨e1, q2⟩ := Prod.mk.inj q1
              subst e0
              subst e1
              subst q2
              exact gRi hx hb hr hlocks hP hS dX5_rate_259
          · have hf := pit hf c_48
            refine lv_iload_n hx hb dX5_rate_198 rfl (lv_at hl 4 rfl) ?_
            refine lv_goto (tgt := 259) hx hb dX5_rate_199 (by decide) ?_
            have q0 := Option.some.inj hf
            obtain ⟨e0, q1⟩ := Prod.mk.inj q0
            obtain ⟨e1, q2⟩ := Prod.mk.inj q1
            subst e0
            subst e1
            subst q2
            exact gRi hx hb hr hlocks hP hS dX5_rate_259
      · have hf := pit hf c_5
        refine lv_iconst (v := (0 : Int32)) hx hb dX5_rate_37 (by decide) ?_
        refine lv_goto (tgt := 43) hx hb dX5_rate_38 (by decide) ?_
        refine lv_istore (lv' := [(5, .int (0 : Int32)), (4, .int (0 : Int32)), (3, .int (0 : Int32)), (0, .ref a_o), (1, .int i1), (2, .int i2)]) hx hb dX5_rate_43 hl (by decide) rfl (fun ls hl => ?_)
        refine lv_iconst (v := (0 : Int32)) hx hb dX5_rate_45 (by decide) ?_
        refine lv_istore (lv' := [(6, .int (0 : Int32)), (5, .int (0 : Int32)), (4, .int (0 : Int32)), (3, .int (0 : Int32)), (0, .ref a_o), (1, .int i1), (2, .int i2)]) hx hb dX5_rate_46 hl (by decide) rfl (fun ls hl => ?_)
        obtain ⟨l3_54, l4_55, l5_56, l6_57, hc, hf⟩ := pb4 hf
        refine wX5_rate_48 hg0 a_o a_o_text a_o_need a_o_made a_o_skillTold a_o_placeTold a_o_skips a_o_wheelTold a_o_tunes a_o_s a_o_spare a_o_kept a_o_isKept a_o_makes a_o_works a_o_order (0 : Int32) o_trace o_typed o_next o_token o_place o_value o_fault o_trades o_people o_draftTrades o_draftPeople o_isShut o_falling o_s i1 i2 N N (0 : Int32) (0 : Int32) (0 : Int32) (0 : Int32) l3_54 l4_55 l5_56 l6_57 hc _ _ _ hP hD hS (lv_sub hl [4, 5, 6, 3, 2, 1, 0] rfl) (fun H locs ls hP hD hS hl => ?_)
        refine lv_iload_n hx hb dX5_rate_117 rfl (lv_at hl 3 rfl) ?_
        refine lv_aload_n hx hb dX5_rate_118 rfl (lv_at hl 0 rfl) ?_
        refine va_get (D := (dC, dI)) (ci := 5) (v := .ref a_o_s) (C := RX5) (T := TX5) (N := 29) hx hb hts uX5_rate_X5 hown hK hP 0 rfl rfl 21 (by decide) (hts _ mX5_rate_3) (fun _ h9 => h9) rfl dX5_rate_119 ?_
        refine lv_bipush (v := (20 : Int32)) hx hb dX5_rate_122 (by decide) ?_
        refine lv_iload_n hx hb dX5_rate_124 rfl (lv_at hl 2 rfl) ?_
        refine lv_iadd hx hb dX5_rate_125 ?_
        obtain ⟨h_58, hf⟩ := pgd hf
        refine va_iald hx hb hK hP 1 1 rfl rfl h_58 dX5_rate_126 ?_
        refine lv_iadd hx hb dX5_rate_127 ?_
        refine lv_istore (lv' := [(6, .int (l3_54 + (o_s ((20 : Int32) + i2).toNatClampNeg))), (0, .ref a_o), (1, .int i1), (2, .int i2), (3, .int l3_54), (4, .int l4_55), (5, .int l5_56)]) hx hb dX5_rate_128 hl (by decide) rfl (fun ls hl => ?_)
        refine lv_aload_n hx hb dX5_rate_130 rfl (lv_at hl 1 rfl) ?_
        refine lv_dup hx hb dX5_rate_131 rfl ?_
        refine va_get (D := (dC, dI)) (ci := 5) (v := .long o_trace) (C := RX5) (T := TX5) (N := 29) hx hb hts uX5_rate_X5 hown hK hP 0 rfl rfl 1 (by decide) (hts _ mX5_rate_4) (fun _ h9 => h9) rfl dX5_rate_132 ?_
        refine lv_iload_n hx hb dX5_rate_135 rfl (lv_at hl 2 rfl) ?_
        refine lv_if_ne (tgt := 143) hx hb dX5_rate_136 (by decide) (fun c_59 => ?_) (fun c_59 => ?_)
        · have hf := pif hf c_59
          refine lv_iload_n hx hb dX5_rate_143 rfl (lv_at hl 2 rfl) ?_
          refine lv_iconst (v := (1 : Int32)) hx hb dX5_rate_144 (by decide) ?_
          refine lv_icmp_ne (tgt := 154) hx hb dX5_rate_145 (by decide) (fun c_60 => ?_) (fun c_60 => ?_)
          · have hf := pif hf c_60
            refine lv_iload_n hx hb dX5_rate_154 rfl (lv_at hl 2 rfl) ?_
            refine lv_iconst (v := (2 : Int32)) hx hb dX5_rate_155 (by decide) ?_
            refine lv_icmp_ne (tgt := 165) hx hb dX5_rate_156 (by decide) (fun c_61 => ?_) (fun c_61 => ?_)
            · have hf := pif hf c_61
              refine lv_iload_n hx hb dX5_rate_165 rfl (lv_at hl 2 rfl) ?_
              refine lv_iconst (v := (3 : Int32)) hx hb dX5_rate_166 (by decide) ?_
              refine lv_icmp_ne (tgt := 176) hx hb dX5_rate_167 (by decide) (fun c_62 => ?_) (fun c_62 => ?_)
              · have hf := pif hf c_62
                refine lv_iload_n hx hb dX5_rate_176 rfl (lv_at hl 2 rfl) ?_
                refine lv_iconst (v := (4 : Int32)) hx hb dX5_rate_177 (by decide) ?_
                refine lv_icmp_ne (tgt := 187) hx hb dX5_rate_178 (by decide) (fun c_63 => ?_) (fun c_63 => ?_)
                · have hf := pif hf c_63
                  refine lv_ldc2 (v := (100001 : Int64)) hx hb hown (hts _ mX5_rate_5) dX5_rate_187 ?_
                  refine lv_ladd hx hb dX5_rate_190 ?_
                  refine lv_topl (fun tl_64 etl_64 => ?_)
                  rw [← etl_64] at hf
                  refine va_put (D := (dC, dI)) (ci := 5) (v := .long tl_64) (ty := .long) (C := RX5) (T := TX5) (N := 29) hx hb hts uX5_rate_X5 tyX5 tyX5_ok nmX5 hown hK hP hD hS 0 rfl rfl 1 (by decide) (hts _ mX5_rate_4) (fun _ h9 => h9) rfl (by decide +kernel) rfl rfl (Nat.le_of_ble_eq_true rfl) dX5_rate_191 (fun H locs hP hD hS => ?_)
                  have hP : va_P (dC, dI) vwCl [(a_o, .inr (5, [.int (0 : Int32), .long tl_64, .ref a_o_text, .int o_typed, .int o_next, .int o_token, .int o_place, .int o_value, .int o_fault, .ref a_o_need, .ref a_o_made, .ref a_o_skillTold, .ref a_o_placeTold, .ref a_o_skips, .ref a_o_wheelTold, .int o_trades, .int o_people, .int o_draftTrades, .int o_draftPeople, .int o_isShut, .ref a_o_tunes, .ref a_o_s, .ref a_o_spare, .ref a_o_kept, .ref a_o_isKept, .ref a_o_makes, .ref a_o_works, .ref a_o_order, .int o_falling])), (a_o_s, .inl (cI, 105, .inl o_s))] H := hP
                  have hD : va_D A [(a_o, .inr (5, [.int (0 : Int32), .long tl_64, .ref a_o_text, .int o_typed, .int o_next, .int o_token, .int o_place, .int o_value, .int o_fault, .ref a_o_need, .ref a_o_made, .ref a_o_skillTold, .ref a_o_placeTold, .ref a_o_skips, .ref a_o_wheelTold, .int o_trades, .int o_people, .int o_draftTrades, .int o_draftPeople, .int o_isShut, .ref a_o_tunes, .ref a_o_s, .ref a_o_spare, .ref a_o_kept, .ref a_o_isKept, .ref a_o_makes, .ref a_o_works, .ref a_o_order, .int o_falling])), (a_o_s, .inl (cI, 105, .inl o_s))] := hD
                  refine lv_iload_n hx hb dX5_rate_194 rfl (lv_at hl 2 rfl) ?_
                  refine lv_if_ne (tgt := 202) hx hb dX5_rate_195 (by decide) (fun c_65 => ?_) (fun c_65 => ?_)
                  · have hf := pif hf c_65
                    refine lv_iload_n hx hb dX5_rate_202 rfl (lv_at hl 2 rfl) ?_
                    refine lv_iconst (v := (1 : Int32)) hx hb dX5_rate_203 (by decide) ?_
                    refine lv_icmp_ne (tgt := 212) hx hb dX5_rate_204 (by decide) (fun c_66 => ?_) (fun c_66 => ?_)
                    · have hf := pif hf c_66
                      refine lv_iload_n hx hb dX5_rate_212 rfl (lv_at hl 2 rfl) ?_
                      refine lv_iconst (v := (2 : Int32)) hx hb dX5_rate_213 (by decide) ?_
                      refine lv_icmp_ne (tgt := 224) hx hb dX5_rate_214 (by decide) (fun c_67 => ?_) (fun c_67 => ?_)
                      · have hf := pif hf c_67
                        refine lv_iload_n hx hb dX5_rate_224 rfl (lv_at hl 2 rfl) ?_
                        refine lv_iconst (v := (3 : Int32)) hx hb dX5_rate_225 (by decide) ?_
                        refine lv_icmp_ne (tgt := 238) hx hb dX5_rate_226 (by decide) (fun c_68 => ?_) (fun c_68 => ?_)
                        · have hf := pif hf c_68
                          refine lv_iload_n hx hb dX5_rate_238 rfl (lv_at hl 2 rfl) ?_
                          refine lv_iconst (v := (4 : Int32)) hx hb dX5_rate_239 (by decide) ?_
                          refine lv_icmp_ne (tgt := 251) hx hb dX5_rate_240 (by decide) (fun c_69 => ?_) (fun c_69 => ?_)
                          · have hf := pif hf c_69
                            refine lv_iload_n hx hb dX5_rate_251 rfl (lv_at hl 4 rfl) ?_
                            refine lv_aload_n hx hb dX5_rate_252 rfl (lv_at hl 1 rfl) ?_
                            refine va_get (D := (dC, dI)) (ci := 5) (v := .ref a_o_s) (C := RX5) (T := TX5) (N := 29) hx hb hts uX5_rate_X5 hown hK hP 0 rfl rfl 21 (by decide) (hts _ mX5_rate_3) (fun _ h9 => h9) rfl dX5_rate_253 ?_
                            refine lv_iconst (v := (0 : Int32)) hx hb dX5_rate_256 (by decide) ?_
                            obtain ⟨h_70, hf⟩ := pgd hf
                            refine va_iald hx hb hK hP 1 1 rfl rfl h_70 dX5_rate_257 ?_
                            refine lv_isub hx hb dX5_rate_258 ?_
                            have q0 := Option.some.inj hf
                            obtain ⟨e0, q1⟩ := Prod.mk.inj q0
                            obtain ⟨e1, q2⟩ := Prod.mk.inj q1
                            subst e0
                            subst e1
                            subst q2
                            exact gRi hx hb hr hlocks hP hS dX5_rate_259
                          · have hf := pit hf c_69
                            refine lv_iload hx hb dX5_rate_243 (lv_at hl 0 rfl) ?_
                            refine lv_iload hx hb dX5_rate_245 (lv_at hl 6 rfl) ?_
                            refine lv_isub hx hb dX5_rate_247 ?_
                            refine lv_goto (tgt := 259) hx hb dX5_rate_248 (by decide) ?_
                            have q0 := Option.some.inj hf
                            obtain ⟨e0, q1⟩ := Prod.mk.inj q0
                            obtain ⟨e1, q2⟩ := Prod.mk.inj q1
                            subst e0
                            subst e1
                            subst q2
                            exact gRi hx hb hr hlocks hP hS dX5_rate_259
                        · have hf := pit hf c_68
                          refine lv_iconst (v := (2 : Int32)) hx hb dX5_rate_229 (by decide) ?_
                          refine lv_iload_n hx hb dX5_rate_230 rfl (lv_at hl 4 rfl) ?_
                          refine lv_iload hx hb dX5_rate_231 (lv_at hl 5 rfl) ?_
                          refine lv_iadd hx hb dX5_rate_233 ?_
                          refine lv_imul hx hb dX5_rate_234 ?_
                          refine lv_goto (tgt := 259) hx hb dX5_rate_235 (by decide) ?_
                          have q0 := Option.some.inj hf
                          obtain ⟨e0, q1⟩ := Prod.mk.inj q0
                          obtain ⟨e1, q2⟩ := Prod.mk.inj q1
                          subst e0
                          subst e1
                          subst q2
                          exact gRi hx hb hr hlocks hP hS dX5_rate_259
                      · have hf := pit hf c_67
                        refine lv_iload_n hx hb dX5_rate_217 rfl (lv_at hl 4 rfl) ?_
                        refine lv_iload hx hb dX5_rate_218 (lv_at hl 5 rfl) ?_
                        refine lv_iadd hx hb dX5_rate_220 ?_
                        refine lv_goto (tgt := 259) hx hb dX5_rate_221 (by decide) ?_
                        have q0 := Option.some.inj hf
                        obtain ⟨e0, q1⟩ := Prod.mk.inj q0
                        obtain ⟨e1, q2⟩ := Prod.mk.inj q1
                        subst e0
                        subst e1
                        subst q2
                        exact gRi hx hb hr hlocks hP hS dX5_rate_259
                    · have hf := pit hf c_66
                      refine lv_iload hx hb dX5_rate_207 (lv_at hl 0 rfl) ?_
                      refine lv_goto (tgt := 259) hx hb dX5_rate_209 (by decide) ?_
                      have q0 := Option.some.inj hf
                      obtain ⟨e0, q1⟩ := Prod.mk.inj q0
                      obtain ⟨e1, q2⟩ := Prod.mk.inj q1
                      subst e0
                      subst e1
                      subst q2
                      exact gRi hx hb hr hlocks hP hS dX5_rate_259
                  · have hf := pit hf c_65
                    refine lv_iload_n hx hb dX5_rate_198 rfl (lv_at hl 4 rfl) ?_
                    refine lv_goto (tgt := 259) hx hb dX5_rate_199 (by decide) ?_
                    have q0 := Option.some.inj hf
                    obtain ⟨e0, q1⟩ := Prod.mk.inj q0
                    obtain ⟨e1, q2⟩ := Prod.mk.inj q1
                    subst e0
                    subst e1
                    subst q2
                    exact gRi hx hb hr hlocks hP hS dX5_rate_259
                · have hf := pit hf c_63
                  refine lv_ldc2 (v := (10011 : Int64)) hx hb hown (hts _ mX5_rate_6) dX5_rate_181 ?_
                  refine lv_goto (tgt := 190) hx hb dX5_rate_184 (by decide) ?_
                  refine lv_ladd hx hb dX5_rate_190 ?_
                  refine lv_topl (fun tl_71 etl_71 => ?_)
                  rw [← etl_71] at hf
                  refine va_put (D := (dC, dI)) (ci := 5) (v := .long tl_71) (ty := .long) (C := RX5) (T := TX5) (N := 29) hx hb hts uX5_rate_X5 tyX5 tyX5_ok nmX5 hown hK hP hD hS 0 rfl rfl 1 (by decide) (hts _ mX5_rate_4) (fun _ h9 => h9) rfl (by decide +kernel) rfl rfl (Nat.le_of_ble_eq_true rfl) dX5_rate_191 (fun H locs hP hD hS => ?_)
                  have hP : va_P (dC, dI) vwCl [(a_o, .inr (5, [.int (0 : Int32), .long tl_71, .ref a_o_text, .int o_typed, .int o_next, .int o_token, .int o_place, .int o_value, .int o_fault, .ref a_o_need, .ref a_o_made, .ref a_o_skillTold, .ref a_o_placeTold, .ref a_o_skips, .ref a_o_wheelTold, .int o_trades, .int o_people, .int o_draftTrades, .int o_draftPeople, .int o_isShut, .ref a_o_tunes, .ref a_o_s, .ref a_o_spare, .ref a_o_kept, .ref a_o_isKept, .ref a_o_makes, .ref a_o_works, .ref a_o_order, .int o_falling])), (a_o_s, .inl (cI, 105, .inl o_s))] H := hP
                  have hD : va_D A [(a_o, .inr (5, [.int (0 : Int32), .long tl_71, .ref a_o_text, .int o_typed, .int o_next, .int o_token, .int o_place, .int o_value, .int o_fault, .ref a_o_need, .ref a_o_made, .ref a_o_skillTold, .ref a_o_placeTold, .ref a_o_skips, .ref a_o_wheelTold, .int o_trades, .int o_people, .int o_draftTrades, .int o_draftPeople, .int o_isShut, .ref a_o_tunes, .ref a_o_s, .ref a_o_spare, .ref a_o_kept, .ref a_o_isKept, .ref a_o_makes, .ref a_o_works, .ref a_o_order, .int o_falling])), (a_o_s, .inl (cI, 105, .inl o_s))] := hD
                  refine lv_iload_n hx hb dX5_rate_194 rfl (lv_at hl 2 rfl) ?_
                  refine lv_if_ne (tgt := 202) hx hb dX5_rate_195 (by decide) (fun c_72 => ?_) (fun c_72 => ?_)
                  · have hf := pif hf c_72
                    refine lv_iload_n hx hb dX5_rate_202 rfl (lv_at hl 2 rfl) ?_
                    refine lv_iconst (v := (1 : Int32)) hx hb dX5_rate_203 (by decide) ?_
                    refine lv_icmp_ne (tgt := 212) hx hb dX5_rate_204 (by decide) (fun c_73 => ?_) (fun c_73 => ?_)
                    · have hf := pif hf c_73
                      refine lv_iload_n hx hb dX5_rate_212 rfl (lv_at hl 2 rfl) ?_
                      refine lv_iconst (v := (2 : Int32)) hx hb dX5_rate_213 (by decide) ?_
                      refine lv_icmp_ne (tgt := 224) hx hb dX5_rate_214 (by decide) (fun c_74 => ?_) (fun c_74 => ?_)
                      · have hf := pif hf c_74
                        refine lv_iload_n hx hb dX5_rate_224 rfl (lv_at hl 2 rfl) ?_
                        refine lv_iconst (v := (3 : Int32)) hx hb dX5_rate_225 (by decide) ?_
                        refine lv_icmp_ne (tgt := 238) hx hb dX5_rate_226 (by decide) (fun c_75 => ?_) (fun c_75 => ?_)
                        · have hf := pif hf c_75
                          refine lv_iload_n hx hb dX5_rate_238 rfl (lv_at hl 2 rfl) ?_
                          refine lv_iconst (v := (4 : Int32)) hx hb dX5_rate_239 (by decide) ?_
                          refine lv_icmp_ne (tgt := 251) hx hb dX5_rate_240 (by decide) (fun c_76 => ?_) (fun c_76 => ?_)
                          · have hf := pif hf c_76
                            refine lv_iload_n hx hb dX5_rate_251 rfl (lv_at hl 4 rfl) ?_
                            refine lv_aload_n hx hb dX5_rate_252 rfl (lv_at hl 1 rfl) ?_
                            refine va_get (D := (dC, dI)) (ci := 5) (v := .ref a_o_s) (C := RX5) (T := TX5) (N := 29) hx hb hts uX5_rate_X5 hown hK hP 0 rfl rfl 21 (by decide) (hts _ mX5_rate_3) (fun _ h9 => h9) rfl dX5_rate_253 ?_
                            refine lv_iconst (v := (0 : Int32)) hx hb dX5_rate_256 (by decide) ?_
                            obtain ⟨h_77, hf⟩ := pgd hf
                            refine va_iald hx hb hK hP 1 1 rfl rfl h_77 dX5_rate_257 ?_
                            refine lv_isub hx hb dX5_rate_258 ?_
                            have q0 := Option.some.inj hf
                            obtain ⟨e0, q1⟩ := Prod.mk.inj q0
                            obtain ⟨e1, q2⟩ := Prod.mk.inj q1
                            subst e0
                            subst e1
                            subst q2
                            exact gRi hx hb hr hlocks hP hS dX5_rate_259
                          · have hf := pit hf c_76
                            refine lv_iload hx hb dX5_rate_243 (lv_at hl 0 rfl) ?_
                            refine lv_iload hx hb dX5_rate_245 (lv_at hl 6 rfl) ?_
                            refine lv_isub hx hb dX5_rate_247 ?_
                            refine lv_goto (tgt := 259) hx hb dX5_rate_248 (by decide) ?_
                            have q0 := Option.some.inj hf
                            obtain ⟨e0, q1⟩ := Prod.mk.inj q0
                            obtain ⟨e1, q2⟩ := Prod.mk.inj q1
                            subst e0
                            subst e1
                            subst q2
                            exact gRi hx hb hr hlocks hP hS dX5_rate_259
                        · have hf := pit hf c_75
                          refine lv_iconst (v := (2 : Int32)) hx hb dX5_rate_229 (by decide) ?_
                          refine lv_iload_n hx hb dX5_rate_230 rfl (lv_at hl 4 rfl) ?_
                          refine lv_iload hx hb dX5_rate_231 (lv_at hl 5 rfl) ?_
                          refine lv_iadd hx hb dX5_rate_233 ?_
                          refine lv_imul hx hb dX5_rate_234 ?_
                          refine lv_goto (tgt := 259) hx hb dX5_rate_235 (by decide) ?_
                          have q0 := Option.some.inj hf
                          obtain ⟨e0, q1⟩ := Prod.mk.inj q0
                          obtain ⟨e1, q2⟩ := Prod.mk.inj q1
                          subst e0
                          subst e1
                          subst q2
                          exact gRi hx hb hr hlocks hP hS dX5_rate_259
                      · have hf := pit hf c_74
                        refine lv_iload_n hx hb dX5_rate_217 rfl (lv_at hl 4 rfl) ?_
                        refine lv_iload hx hb dX5_rate_218 (lv_at hl 5 rfl) ?_
                        refine lv_iadd hx hb dX5_rate_220 ?_
                        refine lv_goto (tgt := 259) hx hb dX5_rate_221 (by decide) ?_
                        have q0 := Option.some.inj hf
                        obtain ⟨e0, q1⟩ := Prod.mk.inj q0
                        obtain ⟨e1, q2⟩ := Prod.mk.inj q1
                        subst e0
                        subst e1
                        subst q2
                        exact gRi hx hb hr hlocks hP hS dX5_rate_259
                    · have hf := pit hf c_73
                      refine lv_iload hx hb dX5_rate_207 (lv_at hl 0 rfl) ?_
                      refine lv_goto (tgt := 259) hx hb dX5_rate_209 (by decide) ?_
                      have q0 := Option.some.inj hf
                      obtain ⟨e0, q1⟩ := Prod.mk.inj q0
                      obtain ⟨e1, q2⟩ := Prod.mk.inj q1
                      subst e0
                      subst e1
                      subst q2
                      exact gRi hx hb hr hlocks hP hS dX5_rate_259
                  · have hf := pit hf c_72
                    refine lv_iload_n hx hb dX5_rate_198 rfl (lv_at hl 4 rfl) ?_
                    refine lv_goto (tgt := 259) hx hb dX5_rate_199 (by decide) ?_
                    have q0 := Option.some.inj hf
                    obtain ⟨e0, q1⟩ := Prod.mk.inj q0
                    obtain ⟨e1, q2⟩ := Prod.mk.inj q1
                    subst e0
                    subst e1
                    subst q2
                    exact gRi hx hb hr hlocks hP hS dX5_rate_259
              · have hf := pit hf c_62
                refine lv_ldc2 (v := (1101 : Int64)) hx hb hown (hts _ mX5_rate_7) dX5_rate_170 ?_
                refine lv_goto (tgt := 190) hx hb dX5_rate_173 (by decide) ?_
                refine lv_ladd hx hb dX5_rate_190 ?_
                refine va_put (D := (dC, dI)) (ci := 5) (v := .long (o_trace + (1101 : Int64))) (ty := .long) (C := RX5) (T := TX5) (N := 29) hx hb hts uX5_rate_X5 tyX5 tyX5_ok nmX5 hown hK hP hD hS 0 rfl rfl 1 (by decide) (hts _ mX5_rate_4) (fun _ h9 => h9) rfl (by decide +kernel) rfl rfl (Nat.le_of_ble_eq_true rfl) dX5_rate_191 (fun H locs hP hD hS => ?_)
                have hP : va_P (dC, dI) vwCl [(a_o, .inr (5, [.int (0 : Int32), .long (o_trace + (1101 : Int64)), .ref a_o_text, .int o_typed, .int o_next, .int o_token, .int o_place, .int o_value, .int o_fault, .ref a_o_need, .ref a_o_made, .ref a_o_skillTold, .ref a_o_placeTold, .ref a_o_skips, .ref a_o_wheelTold, .int o_trades, .int o_people, .int o_draftTrades, .int o_draftPeople, .int o_isShut, .ref a_o_tunes, .ref a_o_s, .ref a_o_spare, .ref a_o_kept, .ref a_o_isKept, .ref a_o_makes, .ref a_o_works, .ref a_o_order, .int o_falling])), (a_o_s, .inl (cI, 105, .inl o_s))] H := hP
                have hD : va_D A [(a_o, .inr (5, [.int (0 : Int32), .long (o_trace + (1101 : Int64)), .ref a_o_text, .int o_typed, .int o_next, .int o_token, .int o_place, .int o_value, .int o_fault, .ref a_o_need, .ref a_o_made, .ref a_o_skillTold, .ref a_o_placeTold, .ref a_o_skips, .ref a_o_wheelTold, .int o_trades, .int o_people, .int o_draftTrades, .int o_draftPeople, .int o_isShut, .ref a_o_tunes, .ref a_o_s, .ref a_o_spare, .ref a_o_kept, .ref a_o_isKept, .ref a_o_makes, .ref a_o_works, .ref a_o_order, .int o_falling])), (a_o_s, .inl (cI, 105, .inl o_s))] := hD
                refine lv_iload_n hx hb dX5_rate_194 rfl (lv_at hl 2 rfl) ?_
                refine lv_if_ne (tgt := 202) hx hb dX5_rate_195 (by decide) (fun c_78 => ?_) (fun c_78 => ?_)
                · have hf := pif hf c_78
                  refine lv_iload_n hx hb dX5_rate_202 rfl (lv_at hl 2 rfl) ?_
                  refine lv_iconst (v := (1 : Int32)) hx hb dX5_rate_203 (by decide) ?_
                  refine lv_icmp_ne (tgt := 212) hx hb dX5_rate_204 (by decide) (fun c_79 => ?_) (fun c_79 => ?_)
                  · have hf := pif hf c_79
                    refine lv_iload_n hx hb dX5_rate_212 rfl (lv_at hl 2 rfl) ?_
                    refine lv_iconst (v := (2 : Int32)) hx hb dX5_rate_213 (by decide) ?_
                    refine lv_icmp_ne (tgt := 224) hx hb dX5_rate_214 (by decide) (fun c_80 => ?_) (fun c_80 => ?_)
                    · have hf := pif hf c_80
                      refine lv_iload_n hx hb dX5_rate_224 rfl (lv_at hl 2 rfl) ?_
                      refine lv_iconst (v := (3 : Int32)) hx hb dX5_rate_225 (by decide) ?_
                      refine lv_icmp_ne (tgt := 238) hx hb dX5_rate_226 (by decide) (fun c_81 => ?_) (fun c_81 => ?_)
                      · have hf := pif hf c_81
                        refine lv_iload_n hx hb dX5_rate_238 rfl (lv_at hl 2 rfl) ?_
                        refine lv_iconst (v := (4 : Int32)) hx hb dX5_rate_239 (by decide) ?_
                        refine lv_icmp_ne (tgt := 251) hx hb dX5_rate_240 (by decide) (fun c_82 => ?_) (fun c_82 => ?_)
                        · have hf := pif hf c_82
                          refine lv_iload_n hx hb dX5_rate_251 rfl (lv_at hl 4 rfl) ?_
                          refine lv_aload_n hx hb dX5_rate_252 rfl (lv_at hl 1 rfl) ?_
                          refine va_get (D := (dC, dI)) (ci := 5) (v := .ref a_o_s) (C := RX5) (T := TX5) (N := 29) hx hb hts uX5_rate_X5 hown hK hP 0 rfl rfl 21 (by decide) (hts _ mX5_rate_3) (fun _ h9 => h9) rfl dX5_rate_253 ?_
                          refine lv_iconst (v := (0 : Int32)) hx hb dX5_rate_256 (by decide) ?_
                          obtain ⟨h_83, hf⟩ := pgd hf
                          refine va_iald hx hb hK hP 1 1 rfl rfl h_83 dX5_rate_257 ?_
                          refine lv_isub hx hb dX5_rate_258 ?_
                          have q0 := Option.some.inj hf
                          obtain ⟨e0, q1⟩ := Prod.mk.inj q0
                          obtain ⟨e1, q2⟩ := Prod.mk.inj q1
                          subst e0
                          subst e1
                          subst q2
                          exact gRi hx hb hr hlocks hP hS dX5_rate_259
                        · have hf := pit hf c_82
                          refine lv_iload hx hb dX5_rate_243 (lv_at hl 0 rfl) ?_
                          refine lv_iload hx hb dX5_rate_245 (lv_at hl 6 rfl) ?_
                          refine lv_isub hx hb dX5_rate_247 ?_
                          refine lv_goto (tgt := 259) hx hb dX5_rate_248 (by decide) ?_
                          have q0 := Option.some.inj hf
                          obtain ⟨e0, q1⟩ := Prod.mk.inj q0
                          obtain ⟨e1, q2⟩ := Prod.mk.inj q1
                          subst e0
                          subst e1
                          subst q2
                          exact gRi hx hb hr hlocks hP hS dX5_rate_259
                      · have hf := pit hf c_81
                        refine lv_iconst (v := (2 : Int32)) hx hb dX5_rate_229 (by decide) ?_
                        refine lv_iload_n hx hb dX5_rate_230 rfl (lv_at hl 4 rfl) ?_
                        refine lv_iload hx hb dX5_rate_231 (lv_at hl 5 rfl) ?_
                        refine lv_iadd hx hb dX5_rate_233 ?_
                        refine lv_imul hx hb dX5_rate_234 ?_
                        refine lv_goto (tgt := 259) hx hb dX5_rate_235 (by decide) ?_
                        have q0 := Option.some.inj hf
                        obtain ⟨e0, q1⟩ := Prod.mk.inj q0
                        obtain ⟨e1, q2⟩ := Prod.mk.inj q1
                        subst e0
                        subst e1
                        subst q2
                        exact gRi hx hb hr hlocks hP hS dX5_rate_259
                    · have hf := pit hf c_80
                      refine lv_iload_n hx hb dX5_rate_217 rfl (lv_at hl 4 rfl) ?_
                      refine lv_iload hx hb dX5_rate_218 (lv_at hl 5 rfl) ?_
                      refine lv_iadd hx hb dX5_rate_220 ?_
                      refine lv_goto (tgt := 259) hx hb dX5_rate_221 (by decide) ?_
                      have q0 := Option.some.inj hf
                      obtain ⟨e0, q1⟩ := Prod.mk.inj q0
                      obtain ⟨e1, q2⟩ := Prod.mk.inj q1
                      subst e0
                      subst e1
                      subst q2
                      exact gRi hx hb hr hlocks hP hS dX5_rate_259
                  · have hf := pit hf c_79
                    refine lv_iload hx hb dX5_rate_207 (lv_at hl 0 rfl) ?_
                    refine lv_goto (tgt := 259) hx hb dX5_rate_209 (by decide) ?_
                    have q0 := Option.some.inj hf
                    obtain ⟨e0, q1⟩ := Prod.mk.inj q0
                    obtain ⟨e1, q2⟩ := Prod.mk.inj q1
                    subst e0
                    subst e1
                    subst q2
                    exact gRi hx hb hr hlocks hP hS dX5_rate_259
                · have hf := pit hf c_78
                  refine lv_iload_n hx hb dX5_rate_198 rfl (lv_at hl 4 rfl) ?_
                  refine lv_goto (tgt := 259) hx hb dX5_rate_199 (by decide) ?_
                  have q0 := Option.some.inj hf
                  obtain ⟨e0, q1⟩ := Prod.mk.inj q0
                  obtain ⟨e1, q2⟩ := Prod.mk.inj q1
                  subst e0
                  subst e1
                  subst q2
                  exact gRi hx hb hr hlocks hP hS dX5_rate_259
            · have hf := pit hf c_61
              refine lv_ldc2 (v := (101 : Int64)) hx hb hown (hts _ mX5_rate_8) dX5_rate_159 ?_
              refine lv_goto (tgt := 190) hx hb dX5_rate_162 (by decide) ?_
              refine lv_ladd hx hb dX5_rate_190 ?_
              refine va_put (D := (dC, dI)) (ci := 5) (v := .long (o_trace + (101 : Int64))) (ty := .long) (C := RX5) (T := TX5) (N := 29) hx hb hts uX5_rate_X5 tyX5 tyX5_ok nmX5 hown hK hP hD hS 0 rfl rfl 1 (by decide) (hts _ mX5_rate_4) (fun _ h9 => h9) rfl (by decide +kernel) rfl rfl (Nat.le_of_ble_eq_true rfl) dX5_rate_191 (fun H locs hP hD hS => ?_)
              have hP : va_P (dC, dI) vwCl [(a_o, .inr (5, [.int (0 : Int32), .long (o_trace + (101 : Int64)), .ref a_o_text, .int o_typed, .int o_next, .int o_token, .int o_place, .int o_value, .int o_fault, .ref a_o_need, .ref a_o_made, .ref a_o_skillTold, .ref a_o_placeTold, .ref a_o_skips, .ref a_o_wheelTold, .int o_trades, .int o_people, .int o_draftTrades, .int o_draftPeople, .int o_isShut, .ref a_o_tunes, .ref a_o_s, .ref a_o_spare, .ref a_o_kept, .ref a_o_isKept, .ref a_o_makes, .ref a_o_works, .ref a_o_order, .int o_falling])), (a_o_s, .inl (cI, 105, .inl o_s))] H := hP
              have hD : va_D A [(a_o, .inr (5, [.int (0 : Int32), .long (o_trace + (101 : Int64)), .ref a_o_text, .int o_typed, .int o_next, .int o_token, .int o_place, .int o_value, .int o_fault, .ref a_o_need, .ref a_o_made, .ref a_o_skillTold, .ref a_o_placeTold, .ref a_o_skips, .ref a_o_wheelTold, .int o_trades, .int o_people, .int o_draftTrades, .int o_draftPeople, .int o_isShut, .ref a_o_tunes, .ref a_o_s, .ref a_o_spare, .ref a_o_kept, .ref a_o_isKept, .ref a_o_makes, .ref a_o_works, .ref a_o_order, .int o_falling])), (a_o_s, .inl (cI, 105, .inl o_s))] := hD
              refine lv_iload_n hx hb dX5_rate_194 rfl (lv_at hl 2 rfl) ?_
              refine lv_if_ne (tgt := 202) hx hb dX5_rate_195 (by decide) (fun c_84 => ?_) (fun c_84 => ?_)
              · have hf := pif hf c_84
                refine lv_iload_n hx hb dX5_rate_202 rfl (lv_at hl 2 rfl) ?_
                refine lv_iconst (v := (1 : Int32)) hx hb dX5_rate_203 (by decide) ?_
                refine lv_icmp_ne (tgt := 212) hx hb dX5_rate_204 (by decide) (fun c_85 => ?_) (fun c_85 => ?_)
                · have hf := pif hf c_85
                  refine lv_iload_n hx hb dX5_rate_212 rfl (lv_at hl 2 rfl) ?_
                  refine lv_iconst (v := (2 : Int32)) hx hb dX5_rate_213 (by decide) ?_
                  refine lv_icmp_ne (tgt := 224) hx hb dX5_rate_214 (by decide) (fun c_86 => ?_) (fun c_86 => ?_)
                  · have hf := pif hf c_86
                    refine lv_iload_n hx hb dX5_rate_224 rfl (lv_at hl 2 rfl) ?_
                    refine lv_iconst (v := (3 : Int32)) hx hb dX5_rate_225 (by decide) ?_
                    refine lv_icmp_ne (tgt := 238) hx hb dX5_rate_226 (by decide) (fun c_87 => ?_) (fun c_87 => ?_)
                    · have hf := pif hf c_87
                      refine lv_iload_n hx hb dX5_rate_238 rfl (lv_at hl 2 rfl) ?_
                      refine lv_iconst (v := (4 : Int32)) hx hb dX5_rate_239 (by decide) ?_
                      refine lv_icmp_ne (tgt := 251) hx hb dX5_rate_240 (by decide) (fun c_88 => ?_) (fun c_88 => ?_)
                      · have hf := pif hf c_88
                        refine lv_iload_n hx hb dX5_rate_251 rfl (lv_at hl 4 rfl) ?_
                        refine lv_aload_n hx hb dX5_rate_252 rfl (lv_at hl 1 rfl) ?_
                        refine va_get (D := (dC, dI)) (ci := 5) (v := .ref a_o_s) (C := RX5) (T := TX5) (N := 29) hx hb hts uX5_rate_X5 hown hK hP 0 rfl rfl 21 (by decide) (hts _ mX5_rate_3) (fun _ h9 => h9) rfl dX5_rate_253 ?_
                        refine lv_iconst (v := (0 : Int32)) hx hb dX5_rate_256 (by decide) ?_
                        obtain ⟨h_89, hf⟩ := pgd hf
                        refine va_iald hx hb hK hP 1 1 rfl rfl h_89 dX5_rate_257 ?_
                        refine lv_isub hx hb dX5_rate_258 ?_
                        have q0 := Option.some.inj hf
                        obtain ⟨e0, q1⟩ := Prod.mk.inj q0
                        obtain ⟨e1, q2⟩ := Prod.mk.inj q1
                        subst e0
                        subst e1
                        subst q2
                        exact gRi hx hb hr hlocks hP hS dX5_rate_259
                      · have hf := pit hf c_88
                        refine lv_iload hx hb dX5_rate_243 (lv_at hl 0 rfl) ?_
                        refine lv_iload hx hb dX5_rate_245 (lv_at hl 6 rfl) ?_
                        refine lv_isub hx hb dX5_rate_247 ?_
                        refine lv_goto (tgt := 259) hx hb dX5_rate_248 (by decide) ?_
                        have q0 := Option.some.inj hf
                        obtain ⟨e0, q1⟩ := Prod.mk.inj q0
                        obtain ⟨e1, q2⟩ := Prod.mk.inj q1
                        subst e0
                        subst e1
                        subst q2
                        exact gRi hx hb hr hlocks hP hS dX5_rate_259
                    · have hf := pit hf c_87
                      refine lv_iconst (v := (2 : Int32)) hx hb dX5_rate_229 (by decide) ?_
                      refine lv_iload_n hx hb dX5_rate_230 rfl (lv_at hl 4 rfl) ?_
                      refine lv_iload hx hb dX5_rate_231 (lv_at hl 5 rfl) ?_
                      refine lv_iadd hx hb dX5_rate_233 ?_
                      refine lv_imul hx hb dX5_rate_234 ?_
                      refine lv_goto (tgt := 259) hx hb dX5_rate_235 (by decide) ?_
                      have q0 := Option.some.inj hf
                      obtain ⟨e0, q1⟩ := Prod.mk.inj q0
                      obtain ⟨e1, q2⟩ := Prod.mk.inj q1
                      subst e0
                      subst e1
                      subst q2
                      exact gRi hx hb hr hlocks hP hS dX5_rate_259
                  · have hf := pit hf c_86
                    refine lv_iload_n hx hb dX5_rate_217 rfl (lv_at hl 4 rfl) ?_
                    refine lv_iload hx hb dX5_rate_218 (lv_at hl 5 rfl) ?_
                    refine lv_iadd hx hb dX5_rate_220 ?_
                    refine lv_goto (tgt := 259) hx hb dX5_rate_221 (by decide) ?_
                    have q0 := Option.some.inj hf
                    obtain ⟨e0, q1⟩ := Prod.mk.inj q0
                    obtain ⟨e1, q2⟩ := Prod.mk.inj q1
                    subst e0
                    subst e1
                    subst q2
                    exact gRi hx hb hr hlocks hP hS dX5_rate_259
                · have hf := pit hf c_85
                  refine lv_iload hx hb dX5_rate_207 (lv_at hl 0 rfl) ?_
                  refine lv_goto (tgt := 259) hx hb dX5_rate_209 (by decide) ?_
                  have q0 := Option.some.inj hf
                  obtain ⟨e0, q1⟩ := Prod.mk.inj q0
                  obtain ⟨e1, q2⟩ := Prod.mk.inj q1
                  subst e0
                  subst e1
                  subst q2
                  exact gRi hx hb hr hlocks hP hS dX5_rate_259
              · have hf := pit hf c_84
                refine lv_iload_n hx hb dX5_rate_198 rfl (lv_at hl 4 rfl) ?_
                refine lv_goto (tgt := 259) hx hb dX5_rate_199 (by decide) ?_
                have q0 := Option.some.inj hf
                obtain ⟨e0, q1⟩ := Prod.mk.inj q0
                obtain ⟨e1, q2⟩ := Prod.mk.inj q1
                subst e0
                subst e1
                subst q2
                exact gRi hx hb hr hlocks hP hS dX5_rate_259
          · have hf := pit hf c_60
            refine lv_ldc2 (v := (11 : Int64)) hx hb hown (hts _ mX5_rate_9) dX5_rate_148 ?_
            refine lv_goto (tgt := 190) hx hb dX5_rate_151 (by decide) ?_
            refine lv_ladd hx hb dX5_rate_190 ?_
            refine va_put (D := (dC, dI)) (ci := 5) (v := .long (o_trace + (11 : Int64))) (ty := .long) (C := RX5) (T := TX5) (N := 29) hx hb hts uX5_rate_X5 tyX5 tyX5_ok nmX5 hown hK hP hD hS 0 rfl rfl 1 (by decide) (hts _ mX5_rate_4) (fun _ h9 => h9) rfl (by decide +kernel) rfl rfl (Nat.le_of_ble_eq_true rfl) dX5_rate_191 (fun H locs hP hD hS => ?_)
            have hP : va_P (dC, dI) vwCl [(a_o, .inr (5, [.int (0 : Int32), .long (o_trace + (11 : Int64)), .ref a_o_text, .int o_typed, .int o_next, .int o_token, .int o_place, .int o_value, .int o_fault, .ref a_o_need, .ref a_o_made, .ref a_o_skillTold, .ref a_o_placeTold, .ref a_o_skips, .ref a_o_wheelTold, .int o_trades, .int o_people, .int o_draftTrades, .int o_draftPeople, .int o_isShut, .ref a_o_tunes, .ref a_o_s, .ref a_o_spare, .ref a_o_kept, .ref a_o_isKept, .ref a_o_makes, .ref a_o_works, .ref a_o_order, .int o_falling])), (a_o_s, .inl (cI, 105, .inl o_s))] H := hP
            have hD : va_D A [(a_o, .inr (5, [.int (0 : Int32), .long (o_trace + (11 : Int64)), .ref a_o_text, .int o_typed, .int o_next, .int o_token, .int o_place, .int o_value, .int o_fault, .ref a_o_need, .ref a_o_made, .ref a_o_skillTold, .ref a_o_placeTold, .ref a_o_skips, .ref a_o_wheelTold, .int o_trades, .int o_people, .int o_draftTrades, .int o_draftPeople, .int o_isShut, .ref a_o_tunes, .ref a_o_s, .ref a_o_spare, .ref a_o_kept, .ref a_o_isKept, .ref a_o_makes, .ref a_o_works, .ref a_o_order, .int o_falling])), (a_o_s, .inl (cI, 105, .inl o_s))] := hD
            refine lv_iload_n hx hb dX5_rate_194 rfl (lv_at hl 2 rfl) ?_
            refine lv_if_ne (tgt := 202) hx hb dX5_rate_195 (by decide) (fun c_90 => ?_) (fun c_90 => ?_)
            · have hf := pif hf c_90
              refine lv_iload_n hx hb dX5_rate_202 rfl (lv_at hl 2 rfl) ?_
              refine lv_iconst (v := (1 : Int32)) hx hb dX5_rate_203 (by decide) ?_
              refine lv_icmp_ne (tgt := 212) hx hb dX5_rate_204 (by decide) (fun c_91 => ?_) (fun c_91 => ?_)
              · have hf := pif hf c_91
                refine lv_iload_n hx hb dX5_rate_212 rfl (lv_at hl 2 rfl) ?_
                refine lv_iconst (v := (2 : Int32)) hx hb dX5_rate_213 (by decide) ?_
                refine lv_icmp_ne (tgt := 224) hx hb dX5_rate_214 (by decide) (fun c_92 => ?_) (fun c_92 => ?_)
                · have hf := pif hf c_92
                  refine lv_iload_n hx hb dX5_rate_224 rfl (lv_at hl 2 rfl) ?_
                  refine lv_iconst (v := (3 : Int32)) hx hb dX5_rate_225 (by decide) ?_
                  refine lv_icmp_ne (tgt := 238) hx hb dX5_rate_226 (by decide) (fun c_93 => ?_) (fun c_93 => ?_)
                  · have hf := pif hf c_93
                    refine lv_iload_n hx hb dX5_rate_238 rfl (lv_at hl 2 rfl) ?_
                    refine lv_iconst (v := (4 : Int32)) hx hb dX5_rate_239 (by decide) ?_
                    refine lv_icmp_ne (tgt := 251) hx hb dX5_rate_240 (by decide) (fun c_94 => ?_) (fun c_94 => ?_)
                    · have hf := pif hf c_94
                      refine lv_iload_n hx hb dX5_rate_251 rfl (lv_at hl 4 rfl) ?_
                      refine lv_aload_n hx hb dX5_rate_252 rfl (lv_at hl 1 rfl) ?_
                      refine va_get (D := (dC, dI)) (ci := 5) (v := .ref a_o_s) (C := RX5) (T := TX5) (N := 29) hx hb hts uX5_rate_X5 hown hK hP 0 rfl rfl 21 (by decide) (hts _ mX5_rate_3) (fun _ h9 => h9) rfl dX5_rate_253 ?_
                      refine lv_iconst (v := (0 : Int32)) hx hb dX5_rate_256 (by decide) ?_
                      obtain ⟨h_95, hf⟩ := pgd hf
                      refine va_iald hx hb hK hP 1 1 rfl rfl h_95 dX5_rate_257 ?_
                      refine lv_isub hx hb dX5_rate_258 ?_
                      have q0 := Option.some.inj hf
                      obtain ⟨e0, q1⟩ := Prod.mk.inj q0
                      obtain ⟨e1, q2⟩ := Prod.mk.inj q1
                      subst e0
                      subst e1
                      subst q2
                      exact gRi hx hb hr hlocks hP hS dX5_rate_259
                    · have hf := pit hf c_94
                      refine lv_iload hx hb dX5_rate_243 (lv_at hl 0 rfl) ?_
                      refine lv_iload hx hb dX5_rate_245 (lv_at hl 6 rfl) ?_
                      refine lv_isub hx hb dX5_rate_247 ?_
                      refine lv_goto (tgt := 259) hx hb dX5_rate_248 (by decide) ?_
                      have q0 := Option.some.inj hf
                      obtain ⟨e0, q1⟩ := Prod.mk.inj q0
                      obtain ⟨e1, q2⟩ := Prod.mk.inj q1
                      subst e0
                      subst e1
                      subst q2
                      exact gRi hx hb hr hlocks hP hS dX5_rate_259
                  · have hf := pit hf c_93
                    refine lv_iconst (v := (2 : Int32)) hx hb dX5_rate_229 (by decide) ?_
                    refine lv_iload_n hx hb dX5_rate_230 rfl (lv_at hl 4 rfl) ?_
                    refine lv_iload hx hb dX5_rate_231 (lv_at hl 5 rfl) ?_
                    refine lv_iadd hx hb dX5_rate_233 ?_
                    refine lv_imul hx hb dX5_rate_234 ?_
                    refine lv_goto (tgt := 259) hx hb dX5_rate_235 (by decide) ?_
                    have q0 := Option.some.inj hf
                    obtain ⟨e0, q1⟩ := Prod.mk.inj q0
                    obtain ⟨e1, q2⟩ := Prod.mk.inj q1
                    subst e0
                    subst e1
                    subst q2
                    exact gRi hx hb hr hlocks hP hS dX5_rate_259
                · have hf := pit hf c_92
                  refine lv_iload_n hx hb dX5_rate_217 rfl (lv_at hl 4 rfl) ?_
                  refine lv_iload hx hb dX5_rate_218 (lv_at hl 5 rfl) ?_
                  refine lv_iadd hx hb dX5_rate_220 ?_
                  refine lv_goto (tgt := 259) hx hb dX5_rate_221 (by decide) ?_
                  have q0 := Option.some.inj hf
                  obtain ⟨e0, q1⟩ := Prod.mk.inj q0
                  obtain ⟨e1, q2⟩ := Prod.mk.inj q1
                  subst e0
                  subst e1
                  subst q2
                  exact gRi hx hb hr hlocks hP hS dX5_rate_259
              · have hf := pit hf c_91
                refine lv_iload hx hb dX5_rate_207 (lv_at hl 0 rfl) ?_
                refine lv_goto (tgt := 259) hx hb dX5_rate_209 (by decide) ?_
                have q0 := Option.some.inj hf
                obtain ⟨e0, q1⟩ := Prod.mk.inj q0
                obtain ⟨e1, q2⟩ := Prod.mk.inj q1
                subst e0
                subst e1
                subst q2
                exact gRi hx hb hr hlocks hP hS dX5_rate_259
            · have hf := pit hf c_90
              refine lv_iload_n hx hb dX5_rate_198 rfl (lv_at hl 4 rfl) ?_
              refine lv_goto (tgt := 259) hx hb dX5_rate_199 (by decide) ?_
              have q0 := Option.some.inj hf
              obtain ⟨e0, q1⟩ := Prod.mk.inj q0
              obtain ⟨e1, q2⟩ := Prod.mk.inj q1
              subst e0
              subst e1
              subst q2
              exact gRi hx hb hr hlocks hP hS dX5_rate_259
        · have hf := pit hf c_59
          refine lv_lconst (v := (1 : Int64)) hx hb dX5_rate_139 (by decide) ?_
          refine lv_goto (tgt := 190) hx hb dX5_rate_140 (by decide) ?_
          refine lv_ladd hx hb dX5_rate_190 ?_
          refine va_put (D := (dC, dI)) (ci := 5) (v := .long (o_trace + (1 : Int64))) (ty := .long) (C := RX5) (T := TX5) (N := 29) hx hb hts uX5_rate_X5 tyX5 tyX5_ok nmX5 hown hK hP hD hS 0 rfl rfl 1 (by decide) (hts _ mX5_rate_4) (fun _ h9 => h9) rfl (by decide +kernel) rfl rfl (Nat.le_of_ble_eq_true rfl) dX5_rate_191 (fun H locs hP hD hS => ?_)
          have hP : va_P (dC, dI) vwCl [(a_o, .inr (5, [.int (0 : Int32), .long (o_trace + (1 : Int64)), .ref a_o_text, .int o_typed, .int o_next, .int o_token, .int o_place, .int o_value, .int o_fault, .ref a_o_need, .ref a_o_made, .ref a_o_skillTold, .ref a_o_placeTold, .ref a_o_skips, .ref a_o_wheelTold, .int o_trades, .int o_people, .int o_draftTrades, .int o_draftPeople, .int o_isShut, .ref a_o_tunes, .ref a_o_s, .ref a_o_spare, .ref a_o_kept, .ref a_o_isKept, .ref a_o_makes, .ref a_o_works, .ref a_o_order, .int o_falling])), (a_o_s, .inl (cI, 105, .inl o_s))] H := hP
          have hD : va_D A [(a_o, .inr (5, [.int (0 : Int32), .long (o_trace + (1 : Int64)), .ref a_o_text, .int o_typed, .int o_next, .int o_token, .int o_place, .int o_value, .int o_fault, .ref a_o_need, .ref a_o_made, .ref a_o_skillTold, .ref a_o_placeTold, .ref a_o_skips, .ref a_o_wheelTold, .int o_trades, .int o_people, .int o_draftTrades, .int o_draftPeople, .int o_isShut, .ref a_o_tunes, .ref a_o_s, .ref a_o_spare, .ref a_o_kept, .ref a_o_isKept, .ref a_o_makes, .ref a_o_works, .ref a_o_order, .int o_falling])), (a_o_s, .inl (cI, 105, .inl o_s))] := hD
          refine lv_iload_n hx hb dX5_rate_194 rfl (lv_at hl 2 rfl) ?_
          refine lv_if_ne (tgt := 202) hx hb dX5_rate_195 (by decide) (fun c_96 => ?_) (fun c_96 => ?_)
          · have hf := pif hf c_96
            refine lv_iload_n hx hb dX5_rate_202 rfl (lv_at hl 2 rfl) ?_
            refine lv_iconst (v := (1 : Int32)) hx hb dX5_rate_203 (by decide) ?_
            refine lv_icmp_ne (tgt := 212) hx hb dX5_rate_204 (by decide) (fun c_97 => ?_) (fun c_97 => ?_)
            · have hf := pif hf c_97
              refine lv_iload_n hx hb dX5_rate_212 rfl (lv_at hl 2 rfl) ?_
              refine lv_iconst (v := (2 : Int32)) hx hb dX5_rate_213 (by decide) ?_
              refine lv_icmp_ne (tgt := 224) hx hb dX5_rate_214 (by decide) (fun c_98 => ?_) (fun c_98 => ?_)
              · have hf := pif hf c_98
                refine lv_iload_n hx hb dX5_rate_224 rfl (lv_at hl 2 rfl) ?_
                refine lv_iconst (v := (3 : Int32)) hx hb dX5_rate_225 (by decide) ?_
                refine lv_icmp_ne (tgt := 238) hx hb dX5_rate_226 (by decide) (fun c_99 => ?_) (fun c_99 => ?_)
                · have hf := pif hf c_99
                  refine lv_iload_n hx hb dX5_rate_238 rfl (lv_at hl 2 rfl) ?_
                  refine lv_iconst (v := (4 : Int32)) hx hb dX5_rate_239 (by decide) ?_
                  refine lv_icmp_ne (tgt := 251) hx hb dX5_rate_240 (by decide) (fun c_100 => ?_) (fun c_100 => ?_)
                  · have hf := pif hf c_100
                    refine lv_iload_n hx hb dX5_rate_251 rfl (lv_at hl 4 rfl) ?_
                    refine lv_aload_n hx hb dX5_rate_252 rfl (lv_at hl 1 rfl) ?_
                    refine va_get (D := (dC, dI)) (ci := 5) (v := .ref a_o_s) (C := RX5) (T := TX5) (N := 29) hx hb hts uX5_rate_X5 hown hK hP 0 rfl rfl 21 (by decide) (hts _ mX5_rate_3) (fun _ h9 => h9) rfl dX5_rate_253 ?_
                    refine lv_iconst (v := (0 : Int32)) hx hb dX5_rate_256 (by decide) ?_
                    obtain ⟨h_101, hf⟩ := pgd hf
                    refine va_iald hx hb hK hP 1 1 rfl rfl h_101 dX5_rate_257 ?_
                    refine lv_isub hx hb dX5_rate_258 ?_
                    have q0 := Option.some.inj hf
                    obtain ⟨e0, q1⟩ := Prod.mk.inj q0
                    obtain ⟨e1, q2⟩ := Prod.mk.inj q1
                    subst e0
                    subst e1
                    subst q2
                    exact gRi hx hb hr hlocks hP hS dX5_rate_259
                  · have hf := pit hf c_100
                    refine lv_iload hx hb dX5_rate_243 (lv_at hl 0 rfl) ?_
                    refine lv_iload hx hb dX5_rate_245 (lv_at hl 6 rfl) ?_
                    refine lv_isub hx hb dX5_rate_247 ?_
                    refine lv_goto (tgt := 259) hx hb dX5_rate_248 (by decide) ?_
                    have q0 := Option.some.inj hf
                    obtain ⟨e0, q1⟩ := Prod.mk.inj q0
                    obtain ⟨e1, q2⟩ := Prod.mk.inj q1
                    subst e0
                    subst e1
                    subst q2
                    exact gRi hx hb hr hlocks hP hS dX5_rate_259
                · have hf := pit hf c_99
                  refine lv_iconst (v := (2 : Int32)) hx hb dX5_rate_229 (by decide) ?_
                  refine lv_iload_n hx hb dX5_rate_230 rfl (lv_at hl 4 rfl) ?_
                  refine lv_iload hx hb dX5_rate_231 (lv_at hl 5 rfl) ?_
                  refine lv_iadd hx hb dX5_rate_233 ?_
                  refine lv_imul hx hb dX5_rate_234 ?_
                  refine lv_goto (tgt := 259) hx hb dX5_rate_235 (by decide) ?_
                  have q0 := Option.some.inj hf
                  obtain ⟨e0, q1⟩ := Prod.mk.inj q0
                  obtain ⟨e1, q2⟩ := Prod.mk.inj q1
                  subst e0
                  subst e1
                  subst q2
                  exact gRi hx hb hr hlocks hP hS dX5_rate_259
              · have hf := pit hf c_98
                refine lv_iload_n hx hb dX5_rate_217 rfl (lv_at hl 4 rfl) ?_
                refine lv_iload hx hb dX5_rate_218 (lv_at hl 5 rfl) ?_
                refine lv_iadd hx hb dX5_rate_220 ?_
                refine lv_goto (tgt := 259) hx hb dX5_rate_221 (by decide) ?_
                have q0 := Option.some.inj hf
                obtain ⟨e0, q1⟩ := Prod.mk.inj q0
                obtain ⟨e1, q2⟩ := Prod.mk.inj q1
                subst e0
                subst e1
                subst q2
                exact gRi hx hb hr hlocks hP hS dX5_rate_259
            · have hf := pit hf c_97
              refine lv_iload hx hb dX5_rate_207 (lv_at hl 0 rfl) ?_
              refine lv_goto (tgt := 259) hx hb dX5_rate_209 (by decide) ?_
              have q0 := Option.some.inj hf
              obtain ⟨e0, q1⟩ := Prod.mk.inj q0
              obtain ⟨e1, q2⟩ := Prod.mk.inj q1
              subst e0
              subst e1
              subst q2
              exact gRi hx hb hr hlocks hP hS dX5_rate_259
          · have hf := pit hf c_96
            refine lv_iload_n hx hb dX5_rate_198 rfl (lv_at hl 4 rfl) ?_
            refine lv_goto (tgt := 259) hx hb dX5_rate_199 (by decide) ?_
            have q0 := Option.some.inj hf
            obtain ⟨e0, q1⟩ := Prod.mk.inj q0
            obtain ⟨e1, q2⟩ := Prod.mk.inj q1
            subst e0
            subst e1
            subst q2
            exact gRi hx hb hr hlocks hP hS dX5_rate_259
    · have hf := pit hf c_4
      refine lv_ldc (v := (-1000000 : Int32)) hx hb hown (hts _ mX5_rate_1) dX5_rate_22 ?_
      have q0 := Option.some.inj hf
      obtain ⟨e0, q1⟩ := Prod.mk.inj q0
      obtain ⟨e1, q2⟩ := Prod.mk.inj q1
      subst e0
      subst e1
      subst q2
      exact gRi hx hb hr hlocks hP hS dX5_rate_24
