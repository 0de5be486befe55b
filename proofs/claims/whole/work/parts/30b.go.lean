abbrev rmX4_go : Room := { frames := 5, cells := 0, slots := 0, locals := 121 }
set_option maxRecDepth 20000 in
theorem uX4_go_X1 : ∀ w ∈ wsX10, w ∈ wsX4_go := by decide +kernel
set_option maxRecDepth 20000 in
theorem uX4_go_X3 : ∀ w ∈ wsX30, w ∈ wsX4_go := by decide +kernel
set_option maxRecDepth 20000 in
theorem uX4_go_X4 : ∀ w ∈ wsX40, w ∈ wsX4_go := by decide +kernel
set_option maxRecDepth 20000 in
theorem mX4_go_0 : (Cond.fieldLink RX4 26 "TradeWheel" "present" "LTradeWheel$World;" : Cond) ∈ wsX4_go := by decide +kernel
set_option maxRecDepth 20000 in
theorem mX4_go_1 : (Cond.fieldLink RX4 141 "TradeWheel$World" "round" "I" : Cond) ∈ wsX4_go := by decide +kernel
set_option maxRecDepth 20000 in
theorem mX4_go_2 : (Cond.fieldLink RX4 48 "TradeWheel" "told" "LTradeWheel$Told;" : Cond) ∈ wsX4_go := by decide +kernel
set_option maxRecDepth 20000 in
theorem mX4_go_3 : (Cond.fieldLink RX4 144 "TradeWheel$Told" "trades" "I" : Cond) ∈ wsX4_go := by decide +kernel
set_option maxRecDepth 20000 in
theorem mX4_go_4 : (Cond.constant RX4 147 (2147483647) : Cond) ∈ wsX4_go := by decide +kernel
set_option maxRecDepth 20000 in
theorem mX4_go_5 : (Cond.fieldLink RX4 19 "TradeWheel" "tunes" "LTradeWheel$Tunes;" : Cond) ∈ wsX4_go := by decide +kernel
set_option maxHeartbeats 4000000 in
set_option maxRecDepth 100000 in
theorem kX4_go (l : Launch) (dC : Nat → ClassId) (dI : Nat → Nat → Nat) (Z : gZ) (cC cI cZ cW : ClassId) (a_o a_o_text a_o_tunes a_o_present a_o_ahead a_o_images a_o_kept a_o_order a_o_told a_o_draft a_o_present_skills a_o_present_places a_o_present_stores a_o_present_lacked a_o_present_helpers a_o_present_favours a_o_present_wheel a_o_present_works a_o_told_needs a_o_told_yields a_o_told_skips a_o_told_skills a_o_told_places a_o_told_wheel : Nat) (sz : Nat) (o_trace : Int64) (o_tunes_fade : Int32) (o_tunes_winter : Int32) (o_tunes_fall : Int32) (o_present_round : Int32) (o_present_fell : Int32) (o_present_ills : Int32) (o_present_skills : Nat → Int32) (o_present_places : Nat → Int32) (o_present_stores : Nat → Int32) (o_present_lacked : Nat → Int32) (o_present_helpers : Nat → Int32) (o_present_favours : Nat → Int32) (o_present_wheel : Nat → Int32) (o_present_works : Nat → Int32) (o_told_trades : Int32) (o_told_people : Int32) (o_told_tradesEnded : Int32) (o_told_needs : Nat → Int32) (o_told_yields : Nat → Int32) (o_told_skips : Nat → Int32) (i1 : Int32) (N : Nat) (r' : Int32) (o_present_round' : Int32) (o_present_fell' : Int32) (o_present_ills' : Int32) (o_present_skills' : Nat → Int32) (o_present_places' : Nat → Int32) (o_present_stores' : Nat → Int32) (o_present_lacked' : Nat → Int32) (o_present_helpers' : Nat → Int32) (o_present_favours' : Nat → Int32) (o_present_works' : Nat → Int32) (hf : fX4_go N o_tunes_fade o_tunes_winter o_tunes_fall o_present_round o_present_fell o_present_ills o_present_skills o_present_places o_present_stores o_present_lacked o_present_helpers o_present_favours o_present_wheel o_present_works o_told_trades o_told_people o_told_needs o_told_yields o_told_skips  i1 = some (r', o_present_round', o_present_fell', o_present_ills', o_present_skills', o_present_places', o_present_stores', o_present_lacked', o_present_helpers', o_present_favours', o_present_works')) : Met l yX4_go wsX4_go rmX4_go (va_Pc [.ref a_o, .int i1] (gB (dC, dI) Z [(cC, .char), (cI, .int), (cZ, .boolean), (cW, .object RX3)] [(a_o, .inr (4, [.ref a_o_text, .ref a_o_tunes, .ref a_o_present, .ref a_o_ahead, .ref a_o_images, .ref a_o_kept, .ref a_o_order, .ref a_o_told, .ref a_o_draft, .long o_trace])), (a_o_tunes, .inr (2, [.int o_tunes_fade, .int o_tunes_winter, .int o_tunes_fall])), (a_o_present, .inr (3, [.int o_present_round, .int o_present_fell, .int o_present_ills, .ref a_o_present_skills, .ref a_o_present_places, .ref a_o_present_stores, .ref a_o_present_lacked, .ref a_o_present_helpers, .ref a_o_present_favours, .ref a_o_present_wheel, .ref a_o_present_works])), (a_o_present_skills, .inl (cI, 36, .inl o_present_skills)), (a_o_present_places, .inl (cI, 6, .inl o_present_places)), (a_o_present_stores, .inl (cI, 6, .inl o_present_stores)), (a_o_present_lacked, .inl (cI, 6, .inl o_present_lacked)), (a_o_present_helpers, .inl (cI, 6, .inl o_present_helpers)), (a_o_present_favours, .inl (cI, 36, .inl o_present_favours)), (a_o_present_wheel, .inl (cI, 6, .inl o_present_wheel)), (a_o_present_works, .inl (cI, 6, .inl o_present_works)), (a_o_told, .inr (1, [.int o_told_trades, .int o_told_people, .ref a_o_told_needs, .ref a_o_told_yields, .ref a_o_told_skips, .ref a_o_told_skills, .ref a_o_told_places, .ref a_o_told_wheel, .int o_told_tradesEnded])), (a_o_told_needs, .inl (cI, 6, .inl o_told_needs)), (a_o_told_yields, .inl (cI, 6, .inl o_told_yields)), (a_o_told_skips, .inl (cI, 6, .inl o_told_skips))] sz)) (va_Qi (fun (r : Int32) (_ : Unit) => r = r') (gE (dC, dI) [(a_o, .inr (4, [.ref a_o_text, .ref a_o_tunes, .ref a_o_present, .ref a_o_ahead, .ref a_o_images, .ref a_o_kept, .ref a_o_order, .ref a_o_told, .ref a_o_draft, .long o_trace])), (a_o_tunes, .inr (2, [.int o_tunes_fade, .int o_tunes_winter, .int o_tunes_fall])), (a_o_present, .inr (3, [.int o_present_round', .int o_present_fell', .int o_present_ills', .ref a_o_present_skills, .ref a_o_present_places, .ref a_o_present_stores, .ref a_o_present_lacked, .ref a_o_present_helpers, .ref a_o_present_favours, .ref a_o_present_wheel, .ref a_o_present_works])), (a_o_present_skills, .inl (cI, 36, .inl o_present_skills')), (a_o_present_places, .inl (cI, 6, .inl o_present_places')), (a_o_present_stores, .inl (cI, 6, .inl o_present_stores')), (a_o_present_lacked, .inl (cI, 6, .inl o_present_lacked')), (a_o_present_helpers, .inl (cI, 6, .inl o_present_helpers')), (a_o_present_favours, .inl (cI, 36, .inl o_present_favours')), (a_o_present_wheel, .inl (cI, 6, .inl o_present_wheel)), (a_o_present_works, .inl (cI, 6, .inl o_present_works')), (a_o_told, .inr (1, [.int o_told_trades, .int o_told_people, .ref a_o_told_needs, .ref a_o_told_yields, .ref a_o_told_skips, .ref a_o_told_skills, .ref a_o_told_places, .ref a_o_told_wheel, .int o_told_tradesEnded])), (a_o_told_needs, .inl (cI, 6, .inl o_told_needs)), (a_o_told_yields, .inl (cI, 6, .inl o_told_yields)), (a_o_told_skips, .inl (cI, 6, .inl o_told_skips))]) (va_A [(a_o, .inr (4, [.ref a_o_text, .ref a_o_tunes, .ref a_o_present, .ref a_o_ahead, .ref a_o_images, .ref a_o_kept, .ref a_o_order, .ref a_o_told, .ref a_o_draft, .long o_trace])), (a_o_tunes, .inr (2, [.int o_tunes_fade, .int o_tunes_winter, .int o_tunes_fall])), (a_o_present, .inr (3, [.int o_present_round, .int o_present_fell, .int o_present_ills, .ref a_o_present_skills, .ref a_o_present_places, .ref a_o_present_stores, .ref a_o_present_lacked, .ref a_o_present_helpers, .ref a_o_present_favours, .ref a_o_present_wheel, .ref a_o_present_works])), (a_o_present_skills, .inl (cI, 36, .inl o_present_skills)), (a_o_present_places, .inl (cI, 6, .inl o_present_places)), (a_o_present_stores, .inl (cI, 6, .inl o_present_stores)), (a_o_present_lacked, .inl (cI, 6, .inl o_present_lacked)), (a_o_present_helpers, .inl (cI, 6, .inl o_present_helpers)), (a_o_present_favours, .inl (cI, 36, .inl o_present_favours)), (a_o_present_wheel, .inl (cI, 6, .inl o_present_wheel)), (a_o_present_works, .inl (cI, 6, .inl o_present_works)), (a_o_told, .inr (1, [.int o_told_trades, .int o_told_people, .ref a_o_told_needs, .ref a_o_told_yields, .ref a_o_told_skips, .ref a_o_told_skills, .ref a_o_told_places, .ref a_o_told_wheel, .int o_told_tradesEnded])), (a_o_told_needs, .inl (cI, 6, .inl o_told_needs)), (a_o_told_yields, .inl (cI, 6, .inl o_told_yields)), (a_o_told_skips, .inl (cI, 6, .inl o_told_skips))] sz)) 0 0 (va_A [(a_o, .inr (4, [.ref a_o_text, .ref a_o_tunes, .ref a_o_present, .ref a_o_ahead, .ref a_o_images, .ref a_o_kept, .ref a_o_order, .ref a_o_told, .ref a_o_draft, .long o_trace])), (a_o_tunes, .inr (2, [.int o_tunes_fade, .int o_tunes_winter, .int o_tunes_fall])), (a_o_present, .inr (3, [.int o_present_round, .int o_present_fell, .int o_present_ills, .ref a_o_present_skills, .ref a_o_present_places, .ref a_o_present_stores, .ref a_o_present_lacked, .ref a_o_present_helpers, .ref a_o_present_favours, .ref a_o_present_wheel, .ref a_o_present_works])), (a_o_present_skills, .inl (cI, 36, .inl o_present_skills)), (a_o_present_places, .inl (cI, 6, .inl o_present_places)), (a_o_present_stores, .inl (cI, 6, .inl o_present_stores)), (a_o_present_lacked, .inl (cI, 6, .inl o_present_lacked)), (a_o_present_helpers, .inl (cI, 6, .inl o_present_helpers)), (a_o_present_favours, .inl (cI, 36, .inl o_present_favours)), (a_o_present_wheel, .inl (cI, 6, .inl o_present_wheel)), (a_o_present_works, .inl (cI, 6, .inl o_present_works)), (a_o_told, .inr (1, [.int o_told_trades, .int o_told_people, .ref a_o_told_needs, .ref a_o_told_yields, .ref a_o_told_skips, .ref a_o_told_skills, .ref a_o_told_places, .ref a_o_told_wheel, .int o_told_tradesEnded])), (a_o_told_needs, .inl (cI, 6, .inl o_told_needs)), (a_o_told_yields, .inl (cI, 6, .inl o_told_yields)), (a_o_told_skips, .inl (cI, 6, .inl o_told_skips))] sz) := by
  refine gMet (cc := cX4_go) (maxL := 2) (ret := (some .int)) (Qc := fun A => va_Qi (fun (r : Int32) (_ : Unit) => r = r') (gE (dC, dI) [(a_o, .inr (4, [.ref a_o_text, .ref a_o_tunes, .ref a_o_present, .ref a_o_ahead, .ref a_o_images, .ref a_o_kept, .ref a_o_order, .ref a_o_told, .ref a_o_draft, .long o_trace])), (a_o_tunes, .inr (2, [.int o_tunes_fade, .int o_tunes_winter, .int o_tunes_fall])), (a_o_present, .inr (3, [.int o_present_round', .int o_present_fell', .int o_present_ills', .ref a_o_present_skills, .ref a_o_present_places, .ref a_o_present_stores, .ref a_o_present_lacked, .ref a_o_present_helpers, .ref a_o_present_favours, .ref a_o_present_wheel, .ref a_o_present_works])), (a_o_present_skills, .inl (cI, 36, .inl o_present_skills')), (a_o_present_places, .inl (cI, 6, .inl o_present_places')), (a_o_present_stores, .inl (cI, 6, .inl o_present_stores')), (a_o_present_lacked, .inl (cI, 6, .inl o_present_lacked')), (a_o_present_helpers, .inl (cI, 6, .inl o_present_helpers')), (a_o_present_favours, .inl (cI, 36, .inl o_present_favours')), (a_o_present_wheel, .inl (cI, 6, .inl o_present_wheel)), (a_o_present_works, .inl (cI, 6, .inl o_present_works')), (a_o_told, .inr (1, [.int o_told_trades, .int o_told_people, .ref a_o_told_needs, .ref a_o_told_yields, .ref a_o_told_skips, .ref a_o_told_skills, .ref a_o_told_places, .ref a_o_told_wheel, .int o_told_tradesEnded])), (a_o_told_needs, .inl (cI, 6, .inl o_told_needs)), (a_o_told_yields, .inl (cI, 6, .inl o_told_yields)), (a_o_told_skips, .inl (cI, 6, .inl o_told_skips))]) A) (by decide) rfl (Nat.le_of_ble_eq_true rfl) ?_
  intro p e s m below meth c A ls hg0 _ hsz hP hD hS hl
  have hg0 : gX p s m _ meth c cX4_go 2 (some .int) wsX4_go RX4 (dC, dI) Z [(cC, .char), (cI, .int), (cZ, .boolean), (cW, .object RX3)] A := hg0
  obtain ⟨hx, hb, hr, hml, hown, hts, hlocks, hA, hK, hN⟩ := id hg0
  subst hsz
  have hF : CallFix p m c cX4_go 2 s _ wsX4_go RX4 := ⟨hx, hb, hml, hown, hts⟩
  have hl : lv_has ls 2 [(0, .ref a_o), (1, .int i1)] := hl
  unfold fX4_go at hf
  refine lv_iload_n hx hb dX4_go_0 rfl (lv_at hl 1 rfl) ?_
  refine lv_iconst (v := (1 : Int32)) hx hb dX4_go_1 (by decide) ?_
  refine lv_bipush (v := (99 : Int32)) hx hb dX4_go_2 (by decide) ?_
  obtain ⟨r_1, hc, hf⟩ := pb1 hf
  refine gCi (va_runS (As := [.int i1, .int (1 : Int32), .int (99 : Int32)]) (rest := []) hF (kX4_within l dC dI Z cC cI cZ cW  _  i1 (1 : Int32) (99 : Int32) N r_1 hc) (cwS 3 hts gX4_go_X4_within rfl rfl rfl (by decide +kernel) ⟨Nat.le_of_ble_eq_true rfl, Nat.le_of_ble_eq_true rfl⟩) (gPS (wc := []) hK hN hA hS hP hD [] rfl rfl) rfl rfl hl.1 rfl (lv_room (Nat.le_of_ble_eq_true rfl)) dX4_go_4 ⟨Nat.zero_le _, Nat.zero_le _⟩) hP hD hS hA [] rfl rfl rfl (fun H locs hP hD hS => ?_)
  have hP : va_P (dC, dI) vwCl [(a_o, .inr (4, [.ref a_o_text, .ref a_o_tunes, .ref a_o_present, .ref a_o_ahead, .ref a_o_images, .ref a_o_kept, .ref a_o_order, .ref a_o_told, .ref a_o_draft, .long o_trace])), (a_o_tunes, .inr (2, [.int o_tunes_fade, .int o_tunes_winter, .int o_tunes_fall])), (a_o_present, .inr (3, [.int o_present_round, .int o_present_fell, .int o_present_ills, .ref a_o_present_skills, .ref a_o_present_places, .ref a_o_present_stores, .ref a_o_present_lacked, .ref a_o_present_helpers, .ref a_o_present_favours, .ref a_o_present_wheel, .ref a_o_present_works])), (a_o_present_skills, .inl (cI, 36, .inl o_present_skills)), (a_o_present_places, .inl (cI, 6, .inl o_present_places)), (a_o_present_stores, .inl (cI, 6, .inl o_present_stores)), (a_o_present_lacked, .inl (cI, 6, .inl o_present_lacked)), (a_o_present_helpers, .inl (cI, 6, .inl o_present_helpers)), (a_o_present_favours, .inl (cI, 36, .inl o_present_favours)), (a_o_present_wheel, .inl (cI, 6, .inl o_present_wheel)), (a_o_present_works, .inl (cI, 6, .inl o_present_works)), (a_o_told, .inr (1, [.int o_told_trades, .int o_told_people, .ref a_o_told_needs, .ref a_o_told_yields, .ref a_o_told_skips, .ref a_o_told_skills, .ref a_o_told_places, .ref a_o_told_wheel, .int o_told_tradesEnded])), (a_o_told_needs, .inl (cI, 6, .inl o_told_needs)), (a_o_told_yields, .inl (cI, 6, .inl o_told_yields)), (a_o_told_skips, .inl (cI, 6, .inl o_told_skips))] H := hP
  have hD : va_D A [(a_o, .inr (4, [.ref a_o_text, .ref a_o_tunes, .ref a_o_present, .ref a_o_ahead, .ref a_o_images, .ref a_o_kept, .ref a_o_order, .ref a_o_told, .ref a_o_draft, .long o_trace])), (a_o_tunes, .inr (2, [.int o_tunes_fade, .int o_tunes_winter, .int o_tunes_fall])), (a_o_present, .inr (3, [.int o_present_round, .int o_present_fell, .int o_present_ills, .ref a_o_present_skills, .ref a_o_present_places, .ref a_o_present_stores, .ref a_o_present_lacked, .ref a_o_present_helpers, .ref a_o_present_favours, .ref a_o_present_wheel, .ref a_o_present_works])), (a_o_present_skills, .inl (cI, 36, .inl o_present_skills)), (a_o_present_places, .inl (cI, 6, .inl o_present_places)), (a_o_present_stores, .inl (cI, 6, .inl o_present_stores)), (a_o_present_lacked, .inl (cI, 6, .inl o_present_lacked)), (a_o_present_helpers, .inl (cI, 6, .inl o_present_helpers)), (a_o_present_favours, .inl (cI, 36, .inl o_present_favours)), (a_o_present_wheel, .inl (cI, 6, .inl o_present_wheel)), (a_o_present_works, .inl (cI, 6, .inl o_present_works)), (a_o_told, .inr (1, [.int o_told_trades, .int o_told_people, .ref a_o_told_needs, .ref a_o_told_yields, .ref a_o_told_skips, .ref a_o_told_skills, .ref a_o_told_places, .ref a_o_told_wheel, .int o_told_tradesEnded])), (a_o_told_needs, .inl (cI, 6, .inl o_told_needs)), (a_o_told_yields, .inl (cI, 6, .inl o_told_yields)), (a_o_told_skips, .inl (cI, 6, .inl o_told_skips))] := hD
  refine lv_if_ne (tgt := 12) hx hb dX4_go_7 (by decide) (fun c_2 => ?_) (fun c_2 => ?_)
  · have hf := pif hf c_2
    refine lv_aload_n hx hb dX4_go_12 rfl (lv_at hl 0 rfl) ?_
    refine va_get (D := (dC, dI)) (ci := 4) (v := .ref a_o_present) (C := RX4) (T := TX4) (N := 10) hx hb hts uX4_go_X4 hown hK hP 0 rfl rfl 2 (by decide) (hts _ mX4_go_0) (fun _ h9 => h9) rfl dX4_go_13 ?_
    refine va_get (D := (dC, dI)) (ci := 3) (v := .int o_present_round) (C := RX3) (T := TX3) (N := 11) hx hb hts uX4_go_X3 hown hK hP 2 rfl rfl 0 (by decide) (hts _ mX4_go_1) (fun _ h9 => h9) rfl dX4_go_16 ?_
    refine lv_bipush (v := (99 : Int32)) hx hb dX4_go_19 (by decide) ?_
    refine lv_icmp_ge (tgt := 34) hx hb dX4_go_21 (by decide) (fun c_3 => ?_) (fun c_3 => ?_)
    · have hf := pit hf c_3
      refine lv_bipush (v := (-2 : Int32)) hx hb dX4_go_34 (by decide) ?_
      have q0 := Option.some.inj hf
      obtain ⟨e0, q1⟩ := Prod.mk.inj q0
      obtain ⟨e1, q2⟩ := Prod.mk.inj q1
      obtain ⟨e2, q3⟩ := Prod.mk.inj q2
      obtain ⟨e3, q4⟩ := Prod.mk.inj q3
      obtain ⟨e4, q5⟩ := Prod.mk.inj q4
      obtain ⟨e5, q6⟩ := Prod.mk.inj q5
      obtain ⟨e6, q7⟩ := Prod.mk.inj q6
      obtain ⟨e7, q8⟩ := Prod.mk.inj q7
      obtain ⟨e8, q9⟩ := Prod.mk.inj q8
      obtain ⟨e9, q10⟩ := Prod.mk.inj q9
      subst e0
      subst e1
      subst e2
      subst e3
      subst e4
      subst e5
      subst e6
      subst e7
      subst e8
      subst e9
      subst q10
      exact gRi hx hb hr hlocks hP hS dX4_go_36
    · have hf := pif hf c_3
      refine lv_aload_n hx hb dX4_go_24 rfl (lv_at hl 0 rfl) ?_
      refine va_get (D := (dC, dI)) (ci := 4) (v := .ref a_o_told) (C := RX4) (T := TX4) (N := 10) hx hb hts uX4_go_X4 hown hK hP 0 rfl rfl 7 (by decide) (hts _ mX4_go_2) (fun _ h9 => h9) rfl dX4_go_25 ?_
      refine va_get (D := (dC, dI)) (ci := 1) (v := .int o_told_trades) (C := RX1) (T := TX1) (N := 9) hx hb hts uX4_go_X1 hown hK hP 11 rfl rfl 0 (by decide) (hts _ mX4_go_3) (fun _ h9 => h9) rfl dX4_go_28 ?_
      refine lv_if_ne (tgt := 37) hx hb dX4_go_31 (by decide) (fun c_4 => ?_) (fun c_4 => ?_)
      · have hf := pif hf c_4
        refine lv_aload_n hx hb dX4_go_37 rfl (lv_at hl 0 rfl) ?_
        refine va_get (D := (dC, dI)) (ci := 4) (v := .ref a_o_present) (C := RX4) (T := TX4) (N := 10) hx hb hts uX4_go_X4 hown hK hP 0 rfl rfl 2 (by decide) (hts _ mX4_go_0) (fun _ h9 => h9) rfl dX4_go_38 ?_
        refine lv_iload_n hx hb dX4_go_41 rfl (lv_at hl 1 rfl) ?_
        refine lv_ldc (v := (2147483647 : Int32)) hx hb hown (hts _ mX4_go_4) dX4_go_42 ?_
        refine lv_aload_n hx hb dX4_go_44 rfl (lv_at hl 0 rfl) ?_
        refine va_get (D := (dC, dI)) (ci := 4) (v := .ref a_o_told) (C := RX4) (T := TX4) (N := 10) hx hb hts uX4_go_X4 hown hK hP 0 rfl rfl 7 (by decide) (hts _ mX4_go_2) (fun _ h9 => h9) rfl dX4_go_45 ?_
        refine lv_aload_n hx hb dX4_go_48 rfl (lv_at hl 0 rfl) ?_
        refine va_get (D := (dC, dI)) (ci := 4) (v := .ref a_o_tunes) (C := RX4) (T := TX4) (N := 10) hx hb hts uX4_go_X4 hown hK hP 0 rfl rfl 1 (by decide) (hts _ mX4_go_5) (fun _ h9 => h9) rfl dX4_go_49 ?_
        obtain ⟨r_5, o_present_round_6, o_present_fell_7, o_present_ills_8, o_present_skills_9, o_present_places_10, o_present_stores_11, o_present_lacked_12, o_present_helpers_13, o_present_favours_14, o_present_works_15, hc, hf⟩ := pb11 hf
        refine gCi (va_runV (As := [.int i1, .int (2147483647 : Int32), .ref a_o_told, .ref a_o_tunes]) (rest := []) hF (kX3_goRounds l dC dI Z cC cI cZ cW a_o_present a_o_present_skills a_o_present_places a_o_present_stores a_o_present_lacked a_o_present_helpers a_o_present_favours a_o_present_wheel a_o_present_works a_o_told a_o_told_needs a_o_told_yields a_o_told_skips a_o_told_skills a_o_told_places a_o_told_wheel a_o_tunes _ o_present_round o_present_fell o_present_ills o_present_skills o_present_places o_present_stores o_present_lacked o_present_helpers o_present_favours o_present_wheel o_present_works o_told_trades o_told_people o_told_tradesEnded o_told_needs o_told_yields o_told_skips o_tunes_fade o_tunes_winter o_tunes_fall i1 (2147483647 : Int32) N r_5 o_present_round_6 o_present_fell_7 o_present_ills_8 o_present_skills_9 o_present_places_10 o_present_stores_11 o_present_lacked_12 o_present_helpers_13 o_present_favours_14 o_present_works_15 hc) (cwV 4 hts gX4_go_X3_goRounds rfl rfl rfl (by decide +kernel) ⟨Nat.le_of_ble_eq_true rfl, Nat.le_of_ble_eq_true rfl⟩) (gPV (wc := [(a_o_present, .inr (3, [.int o_present_round, .int o_present_fell, .int o_present_ills, .ref a_o_present_skills, .ref a_o_present_places, .ref a_o_present_stores, .ref a_o_present_lacked, .ref a_o_present_helpers, .ref a_o_present_favours, .ref a_o_present_wheel, .ref a_o_present_works])), (a_o_present_skills, .inl (cI, 36, .inl o_present_skills)), (a_o_present_places, .inl (cI, 6, .inl o_present_places)), (a_o_present_stores, .inl (cI, 6, .inl o_present_stores)), (a_o_present_lacked, .inl (cI, 6, .inl o_present_lacked)), (a_o_present_helpers, .inl (cI, 6, .inl o_present_helpers)), (a_o_present_favours, .inl (cI, 36, .inl o_present_favours)), (a_o_present_wheel, .inl (cI, 6, .inl o_present_wheel)), (a_o_present_works, .inl (cI, 6, .inl o_present_works)), (a_o_told, .inr (1, [.int o_told_trades, .int o_told_people, .ref a_o_told_needs, .ref a_o_told_yields, .ref a_o_told_skips, .ref a_o_told_skills, .ref a_o_told_places, .ref a_o_told_wheel, .int o_told_tradesEnded])), (a_o_told_needs, .inl (cI, 6, .inl o_told_needs)), (a_o_told_yields, .inl (cI, 6, .inl o_told_yields)), (a_o_told_skips, .inl (cI, 6, .inl o_told_skips)), (a_o_tunes, .inr (2, [.int o_tunes_fade, .int o_tunes_winter, .int o_tunes_fall]))]) hK hN hA hS hP hD [2, 3, 4, 5, 6, 7, 8, 9, 10, 11, 12, 13, 14, 1] rfl rfl (q0 := 0) (ci := 3) rfl rfl rfl) rfl rfl hl.1 rfl (lv_room (Nat.le_of_ble_eq_true rfl)) dX4_go_52 ⟨Nat.zero_le _, Nat.zero_le _⟩) hP hD hS hA [2, 3, 4, 5, 6, 7, 8, 9, 10, 11, 12, 13, 14, 1] rfl rfl rfl (fun H locs hP hD hS => ?_)
        have hP : va_P (dC, dI) vwCl [(a_o, .inr (4, [.ref a_o_text, .ref a_o_tunes, .ref a_o_present, .ref a_o_ahead, .ref a_o_images, .ref a_o_kept, .ref a_o_order, .ref a_o_told, .ref a_o_draft, .long o_trace])), (a_o_tunes, .inr (2, [.int o_tunes_fade, .int o_tunes_winter, .int o_tunes_fall])), (a_o_present, .inr (3, [.int o_present_round_6, .int o_present_fell_7, .int o_present_ills_8, .ref a_o_present_skills, .ref a_o_present_places, .ref a_o_present_stores, .ref a_o_present_lacked, .ref a_o_present_helpers, .ref a_o_present_favours, .ref a_o_present_wheel, .ref a_o_present_works])), (a_o_present_skills, .inl (cI, 36, .inl o_present_skills_9)), (a_o_present_places, .inl (cI, 6, .inl o_present_places_10)), (a_o_present_stores, .inl (cI, 6, .inl o_present_stores_11)), (a_o_present_lacked, .inl (cI, 6, .inl o_present_lacked_12)), (a_o_present_helpers, .inl (cI, 6, .inl o_present_helpers_13)), (a_o_present_favours, .inl (cI, 36, .inl o_present_favours_14)), (a_o_present_wheel, .inl (cI, 6, .inl o_present_wheel)), (a_o_present_works, .inl (cI, 6, .inl o_present_works_15)), (a_o_told, .inr (1, [.int o_told_trades, .int o_told_people, .ref a_o_told_needs, .ref a_o_told_yields, .ref a_o_told_skips, .ref a_o_told_skills, .ref a_o_told_places, .ref a_o_told_wheel, .int o_told_tradesEnded])), (a_o_told_needs, .inl (cI, 6, .inl o_told_needs)), (a_o_told_yields, .inl (cI, 6, .inl o_told_yields)), (a_o_told_skips, .inl (cI, 6, .inl o_told_skips))] H := hP
        have hD : va_D A [(a_o, .inr (4, [.ref a_o_text, .ref a_o_tunes, .ref a_o_present, .ref a_o_ahead, .ref a_o_images, .ref a_o_kept, .ref a_o_order, .ref a_o_told, .ref a_o_draft, .long o_trace])), (a_o_tunes, .inr (2, [.int o_tunes_fade, .int o_tunes_winter, .int o_tunes_fall])), (a_o_present, .inr (3, [.int o_present_round_6, .int o_present_fell_7, .int o_present_ills_8, .ref a_o_present_skills, .ref a_o_present_places, .ref a_o_present_stores, .ref a_o_present_lacked, .ref a_o_present_helpers, .ref a_o_present_favours, .ref a_o_present_wheel, .ref a_o_present_works])), (a_o_present_skills, .inl (cI, 36, .inl o_present_skills_9)), (a_o_present_places, .inl (cI, 6, .inl o_present_places_10)), (a_o_present_stores, .inl (cI, 6, .inl o_present_stores_11)), (a_o_present_lacked, .inl (cI, 6, .inl o_present_lacked_12)), (a_o_present_helpers, .inl (cI, 6, .inl o_present_helpers_13)), (a_o_present_favours, .inl (cI, 36, .inl o_present_favours_14)), (a_o_present_wheel, .inl (cI, 6, .inl o_present_wheel)), (a_o_present_works, .inl (cI, 6, .inl o_present_works_15)), (a_o_told, .inr (1, [.int o_told_trades, .int o_told_people, .ref a_o_told_needs, .ref a_o_told_yields, .ref a_o_told_skips, .ref a_o_told_skills, .ref a_o_told_places, .ref a_o_told_wheel, .int o_told_tradesEnded])), (a_o_told_needs, .inl (cI, 6, .inl o_told_needs)), (a_o_told_yields, .inl (cI, 6, .inl o_told_yields)), (a_o_told_skips, .inl (cI, 6, .inl o_told_skips))] := hD
        have q0 := Option.some.inj hf
        obtain ⟨e0, q1⟩ := Prod.mk.inj q0
        obtain ⟨e1, q2⟩ := Prod.mk.inj q1
        obtain ⟨e2, q3⟩ := Prod.mk.inj q2
        obtain ⟨e3, q4⟩ := Prod.mk.inj q3
        obtain ⟨e4, q5⟩ := Prod.mk.inj q4
        obtain ⟨e5, q6⟩ := Prod.mk.inj q5
        obtain ⟨e6, q7⟩ := Prod.mk.inj q6
        obtain ⟨e7, q8⟩ := Prod.mk.inj q7
        obtain ⟨e8, q9⟩ := Prod.mk.inj q8
        obtain ⟨e9, q10⟩ := Prod.mk.inj q9
        subst e0
        subst e1
        subst e2
        subst e3
        subst e4
        subst e5
        subst e6
        subst e7
        subst e8
        subst e9
        subst q10
        exact gRi hx hb hr hlocks hP hS dX4_go_55
      · have hf := pit hf c_4
        refine lv_bipush (v := (-2 : Int32)) hx hb dX4_go_34 (by decide) ?_
        have q0 := Option.some.inj hf
        obtain ⟨e0, q1⟩ := Prod.mk.inj q0
        obtain ⟨e1, q2⟩ := Prod.mk.inj q1
        obtain ⟨e2, q3⟩ := Prod.mk.inj q2
        obtain ⟨e3, q4⟩ := Prod.mk.inj q3
        obtain ⟨e4, q5⟩ := Prod.mk.inj q4
        obtain ⟨e5, q6⟩ := Prod.mk.inj q5
        obtain ⟨e6, q7⟩ := Prod.mk.inj q6
        obtain ⟨e7, q8⟩ := Prod.mk.inj q7
        obtain ⟨e8, q9⟩ := Prod.mk.inj q8
        obtain ⟨e9, q10⟩ := Prod.mk.inj q9
        subst e0
        subst e1
        subst e2
        subst e3
        subst e4
        subst e5
        subst e6
        subst e7
        subst e8
        subst e9
        subst q10
        exact gRi hx hb hr hlocks hP hS dX4_go_36
  · have hf := pit hf c_2
    refine lv_iconst (v := (-1 : Int32)) hx hb dX4_go_10 (by decide) ?_
    have q0 := Option.some.inj hf
    obtain ⟨e0, q1⟩ := Prod.mk.inj q0
    obtain ⟨e1, q2⟩ := Prod.mk.inj q1
    obtain ⟨e2, q3⟩ := Prod.mk.inj q2
    obtain ⟨e3, q4⟩ := Prod.mk.inj q3
    obtain ⟨e4, q5⟩ := Prod.mk.inj q4
    obtain ⟨e5, q6⟩ := Prod.mk.inj q5
    obtain ⟨e6, q7⟩ := Prod.mk.inj q6
    obtain ⟨e7, q8⟩ := Prod.mk.inj q7
    obtain ⟨e8, q9⟩ := Prod.mk.inj q8
    obtain ⟨e9, q10⟩ := Prod.mk.inj q9
    subst e0
    subst e1
    subst e2
    subst e3
    subst e4
    subst e5
    subst e6
    subst e7
    subst e8
    subst e9
    subst q10
    exact gRi hx hb hr hlocks hP hS dX4_go_11
abbrev rmX4_anew : Room := { frames := 2, cells := 0, slots := 0, locals := 82 }
set_option maxRecDepth 20000 in
theorem uX4_anew_X3 : ∀ w ∈ wsX30, w ∈ wsX4_anew := by decide +kernel
set_option maxRecDepth 20000 in
theorem uX4_anew_X4 : ∀ w ∈ wsX40, w ∈ wsX4_anew := by decide +kernel
set_option maxRecDepth 20000 in
theorem mX4_anew_0 : (Cond.fieldLink RX4 26 "TradeWheel" "present" "LTradeWheel$World;" : Cond) ∈ wsX4_anew := by decide +kernel
set_option maxRecDepth 20000 in
theorem mX4_anew_1 : (Cond.fieldLink RX4 141 "TradeWheel$World" "round" "I" : Cond) ∈ wsX4_anew := by decide +kernel
set_option maxRecDepth 20000 in
theorem mX4_anew_2 : (Cond.fieldLink RX4 48 "TradeWheel" "told" "LTradeWheel$Told;" : Cond) ∈ wsX4_anew := by decide +kernel
set_option maxHeartbeats 4000000 in
set_option maxRecDepth 100000 in
theorem kX4_anew (l : Launch) (dC : Nat → ClassId) (dI : Nat → Nat → Nat) (Z : gZ) (cC cI cZ cW : ClassId) (a_o a_o_text a_o_tunes a_o_present a_o_ahead a_o_images a_o_kept a_o_order a_o_told a_o_draft a_o_present_skills a_o_present_places a_o_present_stores a_o_present_lacked a_o_present_helpers a_o_present_favours a_o_present_wheel a_o_present_works a_o_told_needs a_o_told_yields a_o_told_skips a_o_told_skills a_o_told_places a_o_told_wheel : Nat) (sz : Nat) (o_trace : Int64) (o_present_round : Int32) (o_present_fell : Int32) (o_present_ills : Int32) (o_present_skills : Nat → Int32) (o_present_places : Nat → Int32) (o_present_stores : Nat → Int32) (o_present_lacked : Nat → Int32) (o_present_helpers : Nat → Int32) (o_present_favours : Nat → Int32) (o_present_wheel : Nat → Int32) (o_told_trades : Int32) (o_told_people : Int32) (o_told_tradesEnded : Int32) (o_told_skills : Nat → Int32) (o_told_places : Nat → Int32) (o_told_wheel : Nat → Int32)  (N : Nat) (r' : Int32) (o_present_round' : Int32) (o_present_fell' : Int32) (o_present_ills' : Int32) (o_present_skills' : Nat → Int32) (o_present_places' : Nat → Int32) (o_present_stores' : Nat → Int32) (o_present_lacked' : Nat → Int32) (o_present_helpers' : Nat → Int32) (o_present_favours' : Nat → Int32) (o_present_wheel' : Nat → Int32) (hf : fX4_anew N o_present_round o_present_fell o_present_ills o_present_skills o_present_places o_present_stores o_present_lacked o_present_helpers o_present_favours o_present_wheel o_told_skills o_told_places o_told_wheel   = some (r', o_present_round', o_present_fell', o_present_ills', o_present_skills', o_present_places', o_present_stores', o_present_lacked', o_present_helpers', o_present_favours', o_present_wheel')) : Met l yX4_anew wsX4_anew rmX4_anew (va_Pc [.ref a_o] (gB (dC, dI) Z [(cC, .char), (cI, .int), (cZ, .boolean), (cW, .object RX3)] [(a_o, .inr (4, [.ref a_o_text, .ref a_o_tunes, .ref a_o_present, .ref a_o_ahead, .ref a_o_images, .ref a_o_kept, .ref a_o_order, .ref a_o_told, .ref a_o_draft, .long o_trace])), (a_o_present, .inr (3, [.int o_present_round, .int o_present_fell, .int o_present_ills, .ref a_o_present_skills, .ref a_o_present_places, .ref a_o_present_stores, .ref a_o_present_lacked, .ref a_o_present_helpers, .ref a_o_present_favours, .ref a_o_present_wheel, .ref a_o_present_works])), (a_o_present_skills, .inl (cI, 36, .inl o_present_skills)), (a_o_present_places, .inl (cI, 6, .inl o_present_places)), (a_o_present_stores, .inl (cI, 6, .inl o_present_stores)), (a_o_present_lacked, .inl (cI, 6, .inl o_present_lacked)), (a_o_present_helpers, .inl (cI, 6, .inl o_present_helpers)), (a_o_present_favours, .inl (cI, 36, .inl o_present_favours)), (a_o_present_wheel, .inl (cI, 6, .inl o_present_wheel)), (a_o_told, .inr (1, [.int o_told_trades, .int o_told_people, .ref a_o_told_needs, .ref a_o_told_yields, .ref a_o_told_skips, .ref a_o_told_skills, .ref a_o_told_places, .ref a_o_told_wheel, .int o_told_tradesEnded])), (a_o_told_skills, .inl (cI, 36, .inl o_told_skills)), (a_o_told_places, .inl (cI, 6, .inl o_told_places)), (a_o_told_wheel, .inl (cI, 6, .inl o_told_wheel))] sz)) (va_Qi (fun (r : Int32) (_ : Unit) => r = r') (gE (dC, dI) [(a_o, .inr (4, [.ref a_o_text, .ref a_o_tunes, .ref a_o_present, .ref a_o_ahead, .ref a_o_images, .ref a_o_kept, .ref a_o_order, .ref a_o_told, .ref a_o_draft, .long o_trace])), (a_o_present, .inr (3, [.int o_present_round', .int o_present_fell', .int o_present_ills', .ref a_o_present_skills, .ref a_o_present_places, .ref a_o_present_stores, .ref a_o_present_lacked, .ref a_o_present_helpers, .ref a_o_present_favours, .ref a_o_present_wheel, .ref a_o_present_works])), (a_o_present_skills, .inl (cI, 36, .inl o_present_skills')), (a_o_present_places, .inl (cI, 6, .inl o_present_places')), (a_o_present_stores, .inl (cI, 6, .inl o_present_stores')), (a_o_present_lacked, .inl (cI, 6, .inl o_present_lacked')), (a_o_present_helpers, .inl (cI, 6, .inl o_present_helpers')), (a_o_present_favours, .inl (cI, 36, .inl o_present_favours')), (a_o_present_wheel, .inl (cI, 6, .inl o_present_wheel')), (a_o_told, .inr (1, [.int o_told_trades, .int o_told_people, .ref a_o_told_needs, .ref a_o_told_yields, .ref a_o_told_skips, .ref a_o_told_skills, .ref a_o_told_places, .ref a_o_told_wheel, .int o_told_tradesEnded])), (a_o_told_skills, .inl (cI, 36, .inl o_told_skills)), (a_o_told_places, .inl (cI, 6, .inl o_told_places)), (a_o_told_wheel, .inl (cI, 6, .inl o_told_wheel))]) (va_A [(a_o, .inr (4, [.ref a_o_text, .ref a_o_tunes, .ref a_o_present, .ref a_o_ahead, .ref a_o_images, .ref a_o_kept, .ref a_o_order, .ref a_o_told, .ref a_o_draft, .long o_trace])), (a_o_present, .inr (3, [.int o_present_round, .int o_present_fell, .int o_present_ills, .ref a_o_present_skills, .ref a_o_present_places, .ref a_o_present_stores, .ref a_o_present_lacked, .ref a_o_present_helpers, .ref a_o_present_favours, .ref a_o_present_wheel, .ref a_o_present_works])), (a_o_present_skills, .inl (cI, 36, .inl o_present_skills)), (a_o_present_places, .inl (cI, 6, .inl o_present_places)), (a_o_present_stores, .inl (cI, 6, .inl o_present_stores)), (a_o_present_lacked, .inl (cI, 6, .inl o_present_lacked)), (a_o_present_helpers, .inl (cI, 6, .inl o_present_helpers)), (a_o_present_favours, .inl (cI, 36, .inl o_present_favours)), (a_o_present_wheel, .inl (cI, 6, .inl o_present_wheel)), (a_o_told, .inr (1, [.int o_told_trades, .int o_told_people, .ref a_o_told_needs, .ref a_o_told_yields, .ref a_o_told_skips, .ref a_o_told_skills, .ref a_o_told_places, .ref a_o_told_wheel, .int o_told_tradesEnded])), (a_o_told_skills, .inl (cI, 36, .inl o_told_skills)), (a_o_told_places, .inl (cI, 6, .inl o_told_places)), (a_o_told_wheel, .inl (cI, 6, .inl o_told_wheel))] sz)) 0 0 (va_A [(a_o, .inr (4, [.ref a_o_text, .ref a_o_tunes, .ref a_o_present, .ref a_o_ahead, .ref a_o_images, .ref a_o_kept, .ref a_o_order, .ref a_o_told, .ref a_o_draft, .long o_trace])), (a_o_present, .inr (3, [.int o_present_round, .int o_present_fell, .int o_present_ills, .ref a_o_present_skills, .ref a_o_present_places, .ref a_o_present_stores, .ref a_o_present_lacked, .ref a_o_present_helpers, .ref a_o_present_favours, .ref a_o_present_wheel, .ref a_o_present_works])), (a_o_present_skills, .inl (cI, 36, .inl o_present_skills)), (a_o_present_places, .inl (cI, 6, .inl o_present_places)), (a_o_present_stores, .inl (cI, 6, .inl o_present_stores)), (a_o_present_lacked, .inl (cI, 6, .inl o_present_lacked)), (a_o_present_helpers, .inl (cI, 6, .inl o_present_helpers)), (a_o_present_favours, .inl (cI, 36, .inl o_present_favours)), (a_o_present_wheel, .inl (cI, 6, .inl o_present_wheel)), (a_o_told, .inr (1, [.int o_told_trades, .int o_told_people, .ref a_o_told_needs, .ref a_o_told_yields, .ref a_o_told_skips, .ref a_o_told_skills, .ref a_o_told_places, .ref a_o_told_wheel, .int o_told_tradesEnded])), (a_o_told_skills, .inl (cI, 36, .inl o_told_skills)), (a_o_told_places, .inl (cI, 6, .inl o_told_places)), (a_o_told_wheel, .inl (cI, 6, .inl o_told_wheel))] sz) := by
  refine gMet (cc := cX4_anew) (maxL := 2) (ret := (some .int)) (Qc := fun A => va_Qi (fun (r : Int32) (_ : Unit) => r = r') (gE (dC, dI) [(a_o, .inr (4, [.ref a_o_text, .ref a_o_tunes, .ref a_o_present, .ref a_o_ahead, .ref a_o_images, .ref a_o_kept, .ref a_o_order, .ref a_o_told, .ref a_o_draft, .long o_trace])), (a_o_present, .inr (3, [.int o_present_round', .int o_present_fell', .int o_present_ills', .ref a_o_present_skills, .ref a_o_present_places, .ref a_o_present_stores, .ref a_o_present_lacked, .ref a_o_present_helpers, .ref a_o_present_favours, .ref a_o_present_wheel, .ref a_o_present_works])), (a_o_present_skills, .inl (cI, 36, .inl o_present_skills')), (a_o_present_places, .inl (cI, 6, .inl o_present_places')), (a_o_present_stores, .inl (cI, 6, .inl o_present_stores')), (a_o_present_lacked, .inl (cI, 6, .inl o_present_lacked')), (a_o_present_helpers, .inl (cI, 6, .inl o_present_helpers')), (a_o_present_favours, .inl (cI, 36, .inl o_present_favours')), (a_o_present_wheel, .inl (cI, 6, .inl o_present_wheel')), (a_o_told, .inr (1, [.int o_told_trades, .int o_told_people, .ref a_o_told_needs, .ref a_o_told_yields, .ref a_o_told_skips, .ref a_o_told_skills, .ref a_o_told_places, .ref a_o_told_wheel, .int o_told_tradesEnded])), (a_o_told_skills, .inl (cI, 36, .inl o_told_skills)), (a_o_told_places, .inl (cI, 6, .inl o_told_places)), (a_o_told_wheel, .inl (cI, 6, .inl o_told_wheel))]) A) (by decide) rfl (Nat.le_of_ble_eq_true rfl) ?_
  intro p e s m below meth c A ls hg0 _ hsz hP hD hS hl
  have hg0 : gX p s m _ meth c cX4_anew 2 (some .int) wsX4_anew RX4 (dC, dI) Z [(cC, .char), (cI, .int), (cZ, .boolean), (cW, .object RX3)] A := hg0
  obtain ⟨hx, hb, hr, hml, hown, hts, hlocks, hA, hK, hN⟩ := id hg0
  subst hsz
  have hF : CallFix p m c cX4_anew 2 s _ wsX4_anew RX4 := ⟨hx, hb, hml, hown, hts⟩
  have hl : lv_has ls 2 [(0, .ref a_o)] := hl
  unfold fX4_anew at hf
  refine lv_aload_n hx hb dX4_anew_0 rfl (lv_at hl 0 rfl) ?_
  refine va_get (D := (dC, dI)) (ci := 4) (v := .ref a_o_present) (C := RX4) (T := TX4) (N := 10) hx hb hts uX4_anew_X4 hown hK hP 0 rfl rfl 2 (by decide) (hts _ mX4_anew_0) (fun _ h9 => h9) rfl dX4_anew_1 ?_
  refine va_get (D := (dC, dI)) (ci := 3) (v := .int o_present_round) (C := RX3) (T := TX3) (N := 11) hx hb hts uX4_anew_X3 hown hK hP 1 rfl rfl 0 (by decide) (hts _ mX4_anew_1) (fun _ h9 => h9) rfl dX4_anew_4 ?_
  refine lv_istore_n (lv' := [(1, .int o_present_round), (0, .ref a_o)]) hx hb dX4_anew_7 rfl hl (by decide) rfl (fun ls hl => ?_)
  refine lv_aload_n hx hb dX4_anew_8 rfl (lv_at hl 1 rfl) ?_
  refine va_get (D := (dC, dI)) (ci := 4) (v := .ref a_o_present) (C := RX4) (T := TX4) (N := 10) hx hb hts uX4_anew_X4 hown hK hP 0 rfl rfl 2 (by decide) (hts _ mX4_anew_0) (fun _ h9 => h9) rfl dX4_anew_9 ?_
  refine lv_aload_n hx hb dX4_anew_12 rfl (lv_at hl 1 rfl) ?_
  refine va_get (D := (dC, dI)) (ci := 4) (v := .ref a_o_told) (C := RX4) (T := TX4) (N := 10) hx hb hts uX4_anew_X4 hown hK hP 0 rfl rfl 7 (by decide) (hts _ mX4_anew_2) (fun _ h9 => h9) rfl dX4_anew_13 ?_
  obtain ⟨o_present_round_1, o_present_fell_2, o_present_ills_3, o_present_skills_4, o_present_places_5, o_present_stores_6, o_present_lacked_7, o_present_helpers_8, o_present_favours_9, o_present_wheel_10, hc, hf⟩ := pb10 hf
  refine gCv (va_runV (As := [.ref a_o_told]) (rest := []) hF (kX3_startAs l dC dI Z cC cI cZ cW a_o_present a_o_present_skills a_o_present_places a_o_present_stores a_o_present_lacked a_o_present_helpers a_o_present_favours a_o_present_wheel a_o_present_works a_o_told a_o_told_needs a_o_told_yields a_o_told_skips a_o_told_skills a_o_told_places a_o_told_wheel _ o_present_round o_present_fell o_present_ills o_present_skills o_present_places o_present_stores o_present_lacked o_present_helpers o_present_favours o_present_wheel o_told_trades o_told_people o_told_tradesEnded o_told_skills o_told_places o_told_wheel  N o_present_round_1 o_present_fell_2 o_present_ills_3 o_present_skills_4 o_present_places_5 o_present_stores_6 o_present_lacked_7 o_present_helpers_8 o_present_favours_9 o_present_wheel_10 hc) (cwV 1 hts gX4_anew_X3_startAs rfl rfl rfl (by decide +kernel) ⟨Nat.le_of_ble_eq_true rfl, Nat.le_of_ble_eq_true rfl⟩) (gPV (wc := [(a_o_present, .inr (3, [.int o_present_round, .int o_present_fell, .int o_present_ills, .ref a_o_present_skills, .ref a_o_present_places, .ref a_o_present_stores, .ref a_o_present_lacked, .ref a_o_present_helpers, .ref a_o_present_favours, .ref a_o_present_wheel, .ref a_o_present_works])), (a_o_present_skills, .inl (cI, 36, .inl o_present_skills)), (a_o_present_places, .inl (cI, 6, .inl o_present_places)), (a_o_present_stores, .inl (cI, 6, .inl o_present_stores)), (a_o_present_lacked, .inl (cI, 6, .inl o_present_lacked)), (a_o_present_helpers, .inl (cI, 6, .inl o_present_helpers)), (a_o_present_favours, .inl (cI, 36, .inl o_present_favours)), (a_o_present_wheel, .inl (cI, 6, .inl o_present_wheel)), (a_o_told, .inr (1, [.int o_told_trades, .int o_told_people, .ref a_o_told_needs, .ref a_o_told_yields, .ref a_o_told_skips, .ref a_o_told_skills, .ref a_o_told_places, .ref a_o_told_wheel, .int o_told_tradesEnded])), (a_o_told_skills, .inl (cI, 36, .inl o_told_skills)), (a_o_told_places, .inl (cI, 6, .inl o_told_places)), (a_o_told_wheel, .inl (cI, 6, .inl o_told_wheel))]) hK hN hA hS hP hD [1, 2, 3, 4, 5, 6, 7, 8, 9, 10, 11, 12] rfl rfl (q0 := 0) (ci := 3) rfl rfl rfl) rfl rfl hl.1 rfl (lv_room (Nat.le_of_ble_eq_true rfl)) dX4_anew_16 ⟨Nat.zero_le _, Nat.zero_le _⟩) hP hD hS hA [1, 2, 3, 4, 5, 6, 7, 8, 9, 10, 11, 12] rfl rfl rfl (fun H locs hP hD hS => ?_)
  have hP : va_P (dC, dI) vwCl [(a_o, .inr (4, [.ref a_o_text, .ref a_o_tunes, .ref a_o_present, .ref a_o_ahead, .ref a_o_images, .ref a_o_kept, .ref a_o_order, .ref a_o_told, .ref a_o_draft, .long o_trace])), (a_o_present, .inr (3, [.int o_present_round_1, .int o_present_fell_2, .int o_present_ills_3, .ref a_o_present_skills, .ref a_o_present_places, .ref a_o_present_stores, .ref a_o_present_lacked, .ref a_o_present_helpers, .ref a_o_present_favours, .ref a_o_present_wheel, .ref a_o_present_works])), (a_o_present_skills, .inl (cI, 36, .inl o_present_skills_4)), (a_o_present_places, .inl (cI, 6, .inl o_present_places_5)), (a_o_present_stores, .inl (cI, 6, .inl o_present_stores_6)), (a_o_present_lacked, .inl (cI, 6, .inl o_present_lacked_7)), (a_o_present_helpers, .inl (cI, 6, .inl o_present_helpers_8)), (a_o_present_favours, .inl (cI, 36, .inl o_present_favours_9)), (a_o_present_wheel, .inl (cI, 6, .inl o_present_wheel_10)), (a_o_told, .inr (1, [.int o_told_trades, .int o_told_people, .ref a_o_told_needs, .ref a_o_told_yields, .ref a_o_told_skips, .ref a_o_told_skills, .ref a_o_told_places, .ref a_o_told_wheel, .int o_told_tradesEnded])), (a_o_told_skills, .inl (cI, 36, .inl o_told_skills)), (a_o_told_places, .inl (cI, 6, .inl o_told_places)), (a_o_told_wheel, .inl (cI, 6, .inl o_told_wheel))] H := hP
  have hD : va_D A [(a_o, .inr (4, [.ref a_o_text, .ref a_o_tunes, .ref a_o_present, .ref a_o_ahead, .ref a_o_images, .ref a_o_kept, .ref a_o_order, .ref a_o_told, .ref a_o_draft, .long o_trace])), (a_o_present, .inr (3, [.int o_present_round_1, .int o_present_fell_2, .int o_present_ills_3, .ref a_o_present_skills, .ref a_o_present_places, .ref a_o_present_stores, .ref a_o_present_lacked, .ref a_o_present_helpers, .ref a_o_present_favours, .ref a_o_present_wheel, .ref a_o_present_works])), (a_o_present_skills, .inl (cI, 36, .inl o_present_skills_4)), (a_o_present_places, .inl (cI, 6, .inl o_present_places_5)), (a_o_present_stores, .inl (cI, 6, .inl o_present_stores_6)), (a_o_present_lacked, .inl (cI, 6, .inl o_present_lacked_7)), (a_o_present_helpers, .inl (cI, 6, .inl o_present_helpers_8)), (a_o_present_favours, .inl (cI, 36, .inl o_present_favours_9)), (a_o_present_wheel, .inl (cI, 6, .inl o_present_wheel_10)), (a_o_told, .inr (1, [.int o_told_trades, .int o_told_people, .ref a_o_told_needs, .ref a_o_told_yields, .ref a_o_told_skips, .ref a_o_told_skills, .ref a_o_told_places, .ref a_o_told_wheel, .int o_told_tradesEnded])), (a_o_told_skills, .inl (cI, 36, .inl o_told_skills)), (a_o_told_places, .inl (cI, 6, .inl o_told_places)), (a_o_told_wheel, .inl (cI, 6, .inl o_told_wheel))] := hD
  refine lv_iload_n hx hb dX4_anew_19 rfl (lv_at hl 0 rfl) ?_
  have q0 := Option.some.inj hf
  obtain ⟨e0, q1⟩ := Prod.mk.inj q0
  obtain ⟨e1, q2⟩ := Prod.mk.inj q1
  obtain ⟨e2, q3⟩ := Prod.mk.inj q2
  obtain ⟨e3, q4⟩ := Prod.mk.inj q3
  obtain ⟨e4, q5⟩ := Prod.mk.inj q4
  obtain ⟨e5, q6⟩ := Prod.mk.inj q5
  obtain ⟨e6, q7⟩ := Prod.mk.inj q6
  obtain ⟨e7, q8⟩ := Prod.mk.inj q7
  obtain ⟨e8, q9⟩ := Prod.mk.inj q8
  obtain ⟨e9, q10⟩ := Prod.mk.inj q9
  subst e0
  subst e1
  subst e2
  subst e3
  subst e4
  subst e5
  subst e6
  subst e7
  subst e8
  subst e9
  subst q10
  exact gRi hx hb hr hlocks hP hS dX4_anew_20
