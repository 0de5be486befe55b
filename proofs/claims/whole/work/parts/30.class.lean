abbrev rmX4_type : Room := { frames := 1, cells := 0, slots := 0, locals := 24 }
set_option maxRecDepth 20000 in
theorem uX4_type_X0 : ∀ w ∈ wsX00, w ∈ wsX4_type := by decide +kernel
set_option maxRecDepth 20000 in
theorem uX4_type_X4 : ∀ w ∈ wsX40, w ∈ wsX4_type := by decide +kernel
set_option maxRecDepth 20000 in
theorem mX4_type_0 : (Cond.fieldLink RX4 10 "TradeWheel" "text" "LTradeWheel$Text;" : Cond) ∈ wsX4_type := by decide +kernel
set_option maxRecDepth 20000 in
theorem mX4_type_1 : (Cond.fieldLink RX4 67 "TradeWheel$Text" "length" "I" : Cond) ∈ wsX4_type := by decide +kernel
set_option maxHeartbeats 4000000 in
set_option maxRecDepth 100000 in
theorem kX4_type (l : Launch) (dC : Nat → ClassId) (dI : Nat → Nat → Nat) (Z : gZ) (cC cI cZ cW : ClassId) (a_o a_o_text a_o_tunes a_o_present a_o_ahead a_o_images a_o_kept a_o_order a_o_told a_o_draft a_o_text_signs a_o_text_tokens a_o_text_starts : Nat) (sz : Nat) (o_trace : Int64) (o_text_length : Int32) (o_text_cuts : Int32) (o_text_current : Int32) (o_text_signs : Nat → Int32) (j1 : Int64) (i3 : Int32) (N : Nat) (r' : Int32) (o_text_length' : Int32) (o_text_signs' : Nat → Int32) (hf : fX4_type N o_text_length o_text_signs  j1 i3 = some (r', o_text_length', o_text_signs')) : Met l yX4_type wsX4_type rmX4_type (va_Pc [.ref a_o, .long j1, .int i3] (gB (dC, dI) Z [(cC, .char), (cI, .int), (cZ, .boolean), (cW, .object RX3)] [(a_o, .inr (4, [.ref a_o_text, .ref a_o_tunes, .ref a_o_present, .ref a_o_ahead, .ref a_o_images, .ref a_o_kept, .ref a_o_order, .ref a_o_told, .ref a_o_draft, .long o_trace])), (a_o_text, .inr (0, [.int o_text_length, .ref a_o_text_signs, .ref a_o_text_tokens, .ref a_o_text_starts, .int o_text_cuts, .int o_text_current])), (a_o_text_signs, .inl (cC, 400, .inl o_text_signs))] sz)) (va_Qi (fun (r : Int32) (_ : Unit) => r = r') (gE (dC, dI) [(a_o, .inr (4, [.ref a_o_text, .ref a_o_tunes, .ref a_o_present, .ref a_o_ahead, .ref a_o_images, .ref a_o_kept, .ref a_o_order, .ref a_o_told, .ref a_o_draft, .long o_trace])), (a_o_text, .inr (0, [.int o_text_length', .ref a_o_text_signs, .ref a_o_text_tokens, .ref a_o_text_starts, .int o_text_cuts, .int o_text_current])), (a_o_text_signs, .inl (cC, 400, .inl o_text_signs'))]) (va_A [(a_o, .inr (4, [.ref a_o_text, .ref a_o_tunes, .ref a_o_present, .ref a_o_ahead, .ref a_o_images, .ref a_o_kept, .ref a_o_order, .ref a_o_told, .ref a_o_draft, .long o_trace])), (a_o_text, .inr (0, [.int o_text_length, .ref a_o_text_signs, .ref a_o_text_tokens, .ref a_o_text_starts, .int o_text_cuts, .int o_text_current])), (a_o_text_signs, .inl (cC, 400, .inl o_text_signs))] sz)) 0 0 (va_A [(a_o, .inr (4, [.ref a_o_text, .ref a_o_tunes, .ref a_o_present, .ref a_o_ahead, .ref a_o_images, .ref a_o_kept, .ref a_o_order, .ref a_o_told, .ref a_o_draft, .long o_trace])), (a_o_text, .inr (0, [.int o_text_length, .ref a_o_text_signs, .ref a_o_text_tokens, .ref a_o_text_starts, .int o_text_cuts, .int o_text_current])), (a_o_text_signs, .inl (cC, 400, .inl o_text_signs))] sz) := by
  refine gMet (cc := cX4_type) (maxL := 4) (ret := (some .int)) (Qc := fun A => va_Qi (fun (r : Int32) (_ : Unit) => r = r') (gE (dC, dI) [(a_o, .inr (4, [.ref a_o_text, .ref a_o_tunes, .ref a_o_present, .ref a_o_ahead, .ref a_o_images, .ref a_o_kept, .ref a_o_order, .ref a_o_told, .ref a_o_draft, .long o_trace])), (a_o_text, .inr (0, [.int o_text_length', .ref a_o_text_signs, .ref a_o_text_tokens, .ref a_o_text_starts, .int o_text_cuts, .int o_text_current])), (a_o_text_signs, .inl (cC, 400, .inl o_text_signs'))]) A) (by decide) rfl (Nat.le_of_ble_eq_true rfl) ?_
  intro p e s m below meth c A ls hg0 _ hsz hP hD hS hl
  have hg0 : gX p s m _ meth c cX4_type 4 (some .int) wsX4_type RX4 (dC, dI) Z [(cC, .char), (cI, .int), (cZ, .boolean), (cW, .object RX3)] A := hg0
  obtain ⟨hx, hb, hr, hml, hown, hts, hlocks, hA, hK, hN⟩ := id hg0
  subst hsz
  have hF : CallFix p m c cX4_type 4 s _ wsX4_type RX4 := ⟨hx, hb, hml, hown, hts⟩
  have hl : lv_has ls 4 [(0, .ref a_o), (1, .long j1), (3, .int i3)] := hl
  unfold fX4_type at hf
  refine lv_iload_n hx hb dX4_type_0 rfl (lv_at hl 2 rfl) ?_
  refine lv_iconst (v := (1 : Int32)) hx hb dX4_type_1 (by decide) ?_
  refine lv_bipush (v := (8 : Int32)) hx hb dX4_type_2 (by decide) ?_
  obtain ⟨r_1, hc, hf⟩ := pb1 hf
  refine gCi (va_runS (As := [.int i3, .int (1 : Int32), .int (8 : Int32)]) (rest := []) hF (kX4_within l dC dI Z cC cI cZ cW  _  i3 (1 : Int32) (8 : Int32) N r_1 hc) (cwS 3 hts gX4_type_X4_within rfl rfl rfl (by decide +kernel) ⟨Nat.le_of_ble_eq_true rfl, Nat.le_of_ble_eq_true rfl⟩) (gPS (wc := []) hK hN hA hS hP hD [] rfl rfl) rfl rfl hl.1 rfl (lv_room (Nat.le_of_ble_eq_true rfl)) dX4_type_4 ⟨Nat.zero_le _, Nat.zero_le _⟩) hP hD hS hA [] rfl rfl rfl (fun H locs hP hD hS => ?_)
  have hP : va_P (dC, dI) vwCl [(a_o, .inr (4, [.ref a_o_text, .ref a_o_tunes, .ref a_o_present, .ref a_o_ahead, .ref a_o_images, .ref a_o_kept, .ref a_o_order, .ref a_o_told, .ref a_o_draft, .long o_trace])), (a_o_text, .inr (0, [.int o_text_length, .ref a_o_text_signs, .ref a_o_text_tokens, .ref a_o_text_starts, .int o_text_cuts, .int o_text_current])), (a_o_text_signs, .inl (cC, 400, .inl o_text_signs))] H := hP
  have hD : va_D A [(a_o, .inr (4, [.ref a_o_text, .ref a_o_tunes, .ref a_o_present, .ref a_o_ahead, .ref a_o_images, .ref a_o_kept, .ref a_o_order, .ref a_o_told, .ref a_o_draft, .long o_trace])), (a_o_text, .inr (0, [.int o_text_length, .ref a_o_text_signs, .ref a_o_text_tokens, .ref a_o_text_starts, .int o_text_cuts, .int o_text_current])), (a_o_text_signs, .inl (cC, 400, .inl o_text_signs))] := hD
  refine lv_if_ne (tgt := 12) hx hb dX4_type_7 (by decide) (fun c_2 => ?_) (fun c_2 => ?_)
  · have hf := pif hf c_2
    refine lv_aload_n hx hb dX4_type_12 rfl (lv_at hl 0 rfl) ?_
    refine va_get (D := (dC, dI)) (ci := 4) (v := .ref a_o_text) (C := RX4) (T := TX4) (N := 10) hx hb hts uX4_type_X4 hown hK hP 0 rfl rfl 0 (by decide) (hts _ mX4_type_0) (fun _ h9 => h9) rfl dX4_type_13 ?_
    refine va_get (D := (dC, dI)) (ci := 0) (v := .int o_text_length) (C := RX0) (T := TX0) (N := 6) hx hb hts uX4_type_X0 hown hK hP 1 rfl rfl 0 (by decide) (hts _ mX4_type_1) (fun _ h9 => h9) rfl dX4_type_16 ?_
    refine lv_iload_n hx hb dX4_type_19 rfl (lv_at hl 2 rfl) ?_
    refine lv_iadd hx hb dX4_type_20 ?_
    refine lv_sipush (v := (400 : Int32)) hx hb dX4_type_21 (by decide) ?_
    refine lv_icmp_le (tgt := 30) hx hb dX4_type_24 (by decide) (fun c_3 => ?_) (fun c_3 => ?_)
    · have hf := pit hf c_3
      refine lv_aload_n hx hb dX4_type_30 rfl (lv_at hl 0 rfl) ?_
      refine va_get (D := (dC, dI)) (ci := 4) (v := .ref a_o_text) (C := RX4) (T := TX4) (N := 10) hx hb hts uX4_type_X4 hown hK hP 0 rfl rfl 0 (by decide) (hts _ mX4_type_0) (fun _ h9 => h9) rfl dX4_type_31 ?_
      refine lv_lload_n hx hb dX4_type_34 rfl (lv_at hl 1 rfl) ?_
      refine lv_iload_n hx hb dX4_type_35 rfl (lv_at hl 2 rfl) ?_
      obtain ⟨o_text_length_4, o_text_signs_5, hc, hf⟩ := pb2 hf
      refine gCv (va_runV (As := [.long j1, .int i3]) (rest := []) hF (kX0_add l dC dI Z cC cI cZ cW a_o_text a_o_text_signs a_o_text_tokens a_o_text_starts _ o_text_length o_text_cuts o_text_current o_text_signs j1 i3 N o_text_length_4 o_text_signs_5 hc) (cwV 2 hts gX4_type_X0_add rfl rfl rfl (by decide +kernel) ⟨Nat.le_of_ble_eq_true rfl, Nat.le_of_ble_eq_true rfl⟩) (gPV (wc := [(a_o_text, .inr (0, [.int o_text_length, .ref a_o_text_signs, .ref a_o_text_tokens, .ref a_o_text_starts, .int o_text_cuts, .int o_text_current])), (a_o_text_signs, .inl (cC, 400, .inl o_text_signs))]) hK hN hA hS hP hD [1, 2] rfl rfl (q0 := 0) (ci := 0) rfl rfl rfl) rfl rfl hl.1 rfl (lv_room (Nat.le_of_ble_eq_true rfl)) dX4_type_36 ⟨Nat.zero_le _, Nat.zero_le _⟩) hP hD hS hA [1, 2] rfl rfl rfl (fun H locs hP hD hS => ?_)
      have hP : va_P (dC, dI) vwCl [(a_o, .inr (4, [.ref a_o_text, .ref a_o_tunes, .ref a_o_present, .ref a_o_ahead, .ref a_o_images, .ref a_o_kept, .ref a_o_order, .ref a_o_told, .ref a_o_draft, .long o_trace])), (a_o_text, .inr (0, [.int o_text_length_4, .ref a_o_text_signs, .ref a_o_text_tokens, .ref a_o_text_starts, .int o_text_cuts, .int o_text_current])), (a_o_text_signs, .inl (cC, 400, .inl o_text_signs_5))] H := hP
      have hD : va_D A [(a_o, .inr (4, [.ref a_o_text, .ref a_o_tunes, .ref a_o_present, .ref a_o_ahead, .ref a_o_images, .ref a_o_kept, .ref a_o_order, .ref a_o_told, .ref a_o_draft, .long o_trace])), (a_o_text, .inr (0, [.int o_text_length_4, .ref a_o_text_signs, .ref a_o_text_tokens, .ref a_o_text_starts, .int o_text_cuts, .int o_text_current])), (a_o_text_signs, .inl (cC, 400, .inl o_text_signs_5))] := hD
      refine lv_aload_n hx hb dX4_type_39 rfl (lv_at hl 0 rfl) ?_
      refine va_get (D := (dC, dI)) (ci := 4) (v := .ref a_o_text) (C := RX4) (T := TX4) (N := 10) hx hb hts uX4_type_X4 hown hK hP 0 rfl rfl 0 (by decide) (hts _ mX4_type_0) (fun _ h9 => h9) rfl dX4_type_40 ?_
      refine va_get (D := (dC, dI)) (ci := 0) (v := .int o_text_length_4) (C := RX0) (T := TX0) (N := 6) hx hb hts uX4_type_X0 hown hK hP 1 rfl rfl 0 (by decide) (hts _ mX4_type_1) (fun _ h9 => h9) rfl dX4_type_43 ?_
      have q0 := Option.some.inj hf
      obtain ⟨e0, q1⟩ := Prod.mk.inj q0
      obtain ⟨e1, q2⟩ := Prod.mk.inj q1
      subst e0
      subst e1
      subst q2
      exact gRi hx hb hr hlocks hP hS dX4_type_46
    · have hf := pif hf c_3
      refine lv_bipush (v := (-3 : Int32)) hx hb dX4_type_27 (by decide) ?_
      have q0 := Option.some.inj hf
      obtain ⟨e0, q1⟩ := Prod.mk.inj q0
      obtain ⟨e1, q2⟩ := Prod.mk.inj q1
      subst e0
      subst e1
      subst q2
      exact gRi hx hb hr hlocks hP hS dX4_type_29
  · have hf := pit hf c_2
    refine lv_iconst (v := (-1 : Int32)) hx hb dX4_type_10 (by decide) ?_
    have q0 := Option.some.inj hf
    obtain ⟨e0, q1⟩ := Prod.mk.inj q0
    obtain ⟨e1, q2⟩ := Prod.mk.inj q1
    subst e0
    subst e1
    subst q2
    exact gRi hx hb hr hlocks hP hS dX4_type_11
abbrev rmX4_clear : Room := { frames := 0, cells := 0, slots := 0, locals := 0 }
set_option maxRecDepth 20000 in
theorem uX4_clear_X0 : ∀ w ∈ wsX00, w ∈ wsX4_clear := by decide +kernel
set_option maxRecDepth 20000 in
theorem uX4_clear_X4 : ∀ w ∈ wsX40, w ∈ wsX4_clear := by decide +kernel
set_option maxRecDepth 20000 in
theorem mX4_clear_0 : (Cond.fieldLink RX4 10 "TradeWheel" "text" "LTradeWheel$Text;" : Cond) ∈ wsX4_clear := by decide +kernel
set_option maxRecDepth 20000 in
theorem mX4_clear_1 : (Cond.fieldLink RX4 67 "TradeWheel$Text" "length" "I" : Cond) ∈ wsX4_clear := by decide +kernel
set_option maxHeartbeats 4000000 in
set_option maxRecDepth 100000 in
theorem kX4_clear (l : Launch) (dC : Nat → ClassId) (dI : Nat → Nat → Nat) (Z : gZ) (cC cI cZ cW : ClassId) (a_o a_o_text a_o_tunes a_o_present a_o_ahead a_o_images a_o_kept a_o_order a_o_told a_o_draft a_o_text_signs a_o_text_tokens a_o_text_starts : Nat) (sz : Nat) (o_trace : Int64) (o_text_length : Int32) (o_text_cuts : Int32) (o_text_current : Int32)  (N : Nat) (r' : Int32) (o_text_length' : Int32) (hf : fX4_clear N o_text_length   = some (r', o_text_length')) : Met l yX4_clear wsX4_clear rmX4_clear (va_Pc [.ref a_o] (gB (dC, dI) Z [(cC, .char), (cI, .int), (cZ, .boolean), (cW, .object RX3)] [(a_o, .inr (4, [.ref a_o_text, .ref a_o_tunes, .ref a_o_present, .ref a_o_ahead, .ref a_o_images, .ref a_o_kept, .ref a_o_order, .ref a_o_told, .ref a_o_draft, .long o_trace])), (a_o_text, .inr (0, [.int o_text_length, .ref a_o_text_signs, .ref a_o_text_tokens, .ref a_o_text_starts, .int o_text_cuts, .int o_text_current]))] sz)) (va_Qi (fun (r : Int32) (_ : Unit) => r = r') (gE (dC, dI) [(a_o, .inr (4, [.ref a_o_text, .ref a_o_tunes, .ref a_o_present, .ref a_o_ahead, .ref a_o_images, .ref a_o_kept, .ref a_o_order, .ref a_o_told, .ref a_o_draft, .long o_trace])), (a_o_text, .inr (0, [.int o_text_length', .ref a_o_text_signs, .ref a_o_text_tokens, .ref a_o_text_starts, .int o_text_cuts, .int o_text_current]))]) (va_A [(a_o, .inr (4, [.ref a_o_text, .ref a_o_tunes, .ref a_o_present, .ref a_o_ahead, .ref a_o_images, .ref a_o_kept, .ref a_o_order, .ref a_o_told, .ref a_o_draft, .long o_trace])), (a_o_text, .inr (0, [.int o_text_length, .ref a_o_text_signs, .ref a_o_text_tokens, .ref a_o_text_starts, .int o_text_cuts, .int o_text_current]))] sz)) 0 0 (va_A [(a_o, .inr (4, [.ref a_o_text, .ref a_o_tunes, .ref a_o_present, .ref a_o_ahead, .ref a_o_images, .ref a_o_kept, .ref a_o_order, .ref a_o_told, .ref a_o_draft, .long o_trace])), (a_o_text, .inr (0, [.int o_text_length, .ref a_o_text_signs, .ref a_o_text_tokens, .ref a_o_text_starts, .int o_text_cuts, .int o_text_current]))] sz) := by
  refine gMet (cc := cX4_clear) (maxL := 2) (ret := (some .int)) (Qc := fun A => va_Qi (fun (r : Int32) (_ : Unit) => r = r') (gE (dC, dI) [(a_o, .inr (4, [.ref a_o_text, .ref a_o_tunes, .ref a_o_present, .ref a_o_ahead, .ref a_o_images, .ref a_o_kept, .ref a_o_order, .ref a_o_told, .ref a_o_draft, .long o_trace])), (a_o_text, .inr (0, [.int o_text_length', .ref a_o_text_signs, .ref a_o_text_tokens, .ref a_o_text_starts, .int o_text_cuts, .int o_text_current]))]) A) (by decide) rfl (Nat.le_of_ble_eq_true rfl) ?_
  intro p e s m below meth c A ls hg0 _ hsz hP hD hS hl
  have hg0 : gX p s m _ meth c cX4_clear 2 (some .int) wsX4_clear RX4 (dC, dI) Z [(cC, .char), (cI, .int), (cZ, .boolean), (cW, .object RX3)] A := hg0
  obtain ⟨hx, hb, hr, hml, hown, hts, hlocks, hA, hK, hN⟩ := id hg0
  subst hsz
  have hF : CallFix p m c cX4_clear 2 s _ wsX4_clear RX4 := ⟨hx, hb, hml, hown, hts⟩
  have hl : lv_has ls 2 [(0, .ref a_o)] := hl
  unfold fX4_clear at hf
  refine lv_aload_n hx hb dX4_clear_0 rfl (lv_at hl 0 rfl) ?_
  refine va_get (D := (dC, dI)) (ci := 4) (v := .ref a_o_text) (C := RX4) (T := TX4) (N := 10) hx hb hts uX4_clear_X4 hown hK hP 0 rfl rfl 0 (by decide) (hts _ mX4_clear_0) (fun _ h9 => h9) rfl dX4_clear_1 ?_
  refine va_get (D := (dC, dI)) (ci := 0) (v := .int o_text_length) (C := RX0) (T := TX0) (N := 6) hx hb hts uX4_clear_X0 hown hK hP 1 rfl rfl 0 (by decide) (hts _ mX4_clear_1) (fun _ h9 => h9) rfl dX4_clear_4 ?_
  refine lv_istore_n (lv' := [(1, .int o_text_length), (0, .ref a_o)]) hx hb dX4_clear_7 rfl hl (by decide) rfl (fun ls hl => ?_)
  refine lv_aload_n hx hb dX4_clear_8 rfl (lv_at hl 1 rfl) ?_
  refine va_get (D := (dC, dI)) (ci := 4) (v := .ref a_o_text) (C := RX4) (T := TX4) (N := 10) hx hb hts uX4_clear_X4 hown hK hP 0 rfl rfl 0 (by decide) (hts _ mX4_clear_0) (fun _ h9 => h9) rfl dX4_clear_9 ?_
  refine lv_iconst (v := (0 : Int32)) hx hb dX4_clear_12 (by decide) ?_
  refine va_put (D := (dC, dI)) (ci := 0) (v := .int (0 : Int32)) (ty := .int) (C := RX0) (T := TX0) (N := 6) hx hb hts uX4_clear_X0 tyX0 tyX0_ok nmX0 hown hK hP hD hS 1 rfl rfl 0 (by decide) (hts _ mX4_clear_1) (fun _ h9 => h9) rfl (by decide +kernel) rfl rfl (Nat.le_of_ble_eq_true rfl) dX4_clear_13 (fun H locs hP hD hS => ?_)
  have hP : va_P (dC, dI) vwCl [(a_o, .inr (4, [.ref a_o_text, .ref a_o_tunes, .ref a_o_present, .ref a_o_ahead, .ref a_o_images, .ref a_o_kept, .ref a_o_order, .ref a_o_told, .ref a_o_draft, .long o_trace])), (a_o_text, .inr (0, [.int (0 : Int32), .ref a_o_text_signs, .ref a_o_text_tokens, .ref a_o_text_starts, .int o_text_cuts, .int o_text_current]))] H := hP
  have hD : va_D A [(a_o, .inr (4, [.ref a_o_text, .ref a_o_tunes, .ref a_o_present, .ref a_o_ahead, .ref a_o_images, .ref a_o_kept, .ref a_o_order, .ref a_o_told, .ref a_o_draft, .long o_trace])), (a_o_text, .inr (0, [.int (0 : Int32), .ref a_o_text_signs, .ref a_o_text_tokens, .ref a_o_text_starts, .int o_text_cuts, .int o_text_current]))] := hD
  refine lv_iload_n hx hb dX4_clear_16 rfl (lv_at hl 0 rfl) ?_
  have q0 := Option.some.inj hf
  obtain ⟨e0, q1⟩ := Prod.mk.inj q0
  subst e0
  subst q1
  exact gRi hx hb hr hlocks hP hS dX4_clear_17
abbrev rmX4_isTrade : Room := { frames := 1, cells := 0, slots := 0, locals := 22 }
set_option maxRecDepth 20000 in
theorem uX4_isTrade_X1 : ∀ w ∈ wsX10, w ∈ wsX4_isTrade := by decide +kernel
set_option maxRecDepth 20000 in
theorem uX4_isTrade_X4 : ∀ w ∈ wsX40, w ∈ wsX4_isTrade := by decide +kernel
set_option maxRecDepth 20000 in
theorem mX4_isTrade_0 : (Cond.fieldLink RX4 48 "TradeWheel" "told" "LTradeWheel$Told;" : Cond) ∈ wsX4_isTrade := by decide +kernel
set_option maxRecDepth 20000 in
theorem mX4_isTrade_1 : (Cond.fieldLink RX4 144 "TradeWheel$Told" "trades" "I" : Cond) ∈ wsX4_isTrade := by decide +kernel
set_option maxHeartbeats 4000000 in
set_option maxRecDepth 100000 in
theorem kX4_isTrade (l : Launch) (dC : Nat → ClassId) (dI : Nat → Nat → Nat) (Z : gZ) (cC cI cZ cW : ClassId) (a_o a_o_text a_o_tunes a_o_present a_o_ahead a_o_images a_o_kept a_o_order a_o_told a_o_draft a_o_told_needs a_o_told_yields a_o_told_skips a_o_told_skills a_o_told_places a_o_told_wheel : Nat) (sz : Nat) (o_trace : Int64) (o_told_trades : Int32) (o_told_people : Int32) (o_told_tradesEnded : Int32) (i1 : Int32) (N : Nat) (r' : Int32) (hf : fX4_isTrade N o_told_trades  i1 = some r') : Met l yX4_isTrade wsX4_isTrade rmX4_isTrade (va_Pc [.ref a_o, .int i1] (gB (dC, dI) Z [(cC, .char), (cI, .int), (cZ, .boolean), (cW, .object RX3)] [(a_o, .inr (4, [.ref a_o_text, .ref a_o_tunes, .ref a_o_present, .ref a_o_ahead, .ref a_o_images, .ref a_o_kept, .ref a_o_order, .ref a_o_told, .ref a_o_draft, .long o_trace])), (a_o_told, .inr (1, [.int o_told_trades, .int o_told_people, .ref a_o_told_needs, .ref a_o_told_yields, .ref a_o_told_skips, .ref a_o_told_skills, .ref a_o_told_places, .ref a_o_told_wheel, .int o_told_tradesEnded]))] sz)) (va_Qi (fun (r : Int32) (_ : Unit) => r = r') (gE (dC, dI) [(a_o, .inr (4, [.ref a_o_text, .ref a_o_tunes, .ref a_o_present, .ref a_o_ahead, .ref a_o_images, .ref a_o_kept, .ref a_o_order, .ref a_o_told, .ref a_o_draft, .long o_trace])), (a_o_told, .inr (1, [.int o_told_trades, .int o_told_people, .ref a_o_told_needs, .ref a_o_told_yields, .ref a_o_told_skips, .ref a_o_told_skills, .ref a_o_told_places, .ref a_o_told_wheel, .int o_told_tradesEnded]))]) (va_A [(a_o, .inr (4, [.ref a_o_text, .ref a_o_tunes, .ref a_o_present, .ref a_o_ahead, .ref a_o_images, .ref a_o_kept, .ref a_o_order, .ref a_o_told, .ref a_o_draft, .long o_trace])), (a_o_told, .inr (1, [.int o_told_trades, .int o_told_people, .ref a_o_told_needs, .ref a_o_told_yields, .ref a_o_told_skips, .ref a_o_told_skills, .ref a_o_told_places, .ref a_o_told_wheel, .int o_told_tradesEnded]))] sz)) 0 0 (va_A [(a_o, .inr (4, [.ref a_o_text, .ref a_o_tunes, .ref a_o_present, .ref a_o_ahead, .ref a_o_images, .ref a_o_kept, .ref a_o_order, .ref a_o_told, .ref a_o_draft, .long o_trace])), (a_o_told, .inr (1, [.int o_told_trades, .int o_told_people, .ref a_o_told_needs, .ref a_o_told_yields, .ref a_o_told_skips, .ref a_o_told_skills, .ref a_o_told_places, .ref a_o_told_wheel, .int o_told_tradesEnded]))] sz) := by
  refine gMet (cc := cX4_isTrade) (maxL := 2) (ret := (some .boolean)) (Qc := fun A => va_Qi (fun (r : Int32) (_ : Unit) => r = r') (gE (dC, dI) [(a_o, .inr (4, [.ref a_o_text, .ref a_o_tunes, .ref a_o_present, .ref a_o_ahead, .ref a_o_images, .ref a_o_kept, .ref a_o_order, .ref a_o_told, .ref a_o_draft, .long o_trace])), (a_o_told, .inr (1, [.int o_told_trades, .int o_told_people, .ref a_o_told_needs, .ref a_o_told_yields, .ref a_o_told_skips, .ref a_o_told_skills, .ref a_o_told_places, .ref a_o_told_wheel, .int o_told_tradesEnded]))]) A) (by decide) rfl (Nat.le_of_ble_eq_true rfl) ?_
  intro p e s m below meth c A ls hg0 _ hsz hP hD hS hl
  have hg0 : gX p s m _ meth c cX4_isTrade 2 (some .boolean) wsX4_isTrade RX4 (dC, dI) Z [(cC, .char), (cI, .int), (cZ, .boolean), (cW, .object RX3)] A := hg0
  obtain ⟨hx, hb, hr, hml, hown, hts, hlocks, hA, hK, hN⟩ := id hg0
  subst hsz
  have hF : CallFix p m c cX4_isTrade 2 s _ wsX4_isTrade RX4 := ⟨hx, hb, hml, hown, hts⟩
  have hl : lv_has ls 2 [(0, .ref a_o), (1, .int i1)] := hl
  unfold fX4_isTrade at hf
  refine lv_iload_n hx hb dX4_isTrade_0 rfl (lv_at hl 1 rfl) ?_
  refine lv_iconst (v := (0 : Int32)) hx hb dX4_isTrade_1 (by decide) ?_
  refine lv_aload_n hx hb dX4_isTrade_2 rfl (lv_at hl 0 rfl) ?_
  refine va_get (D := (dC, dI)) (ci := 4) (v := .ref a_o_told) (C := RX4) (T := TX4) (N := 10) hx hb hts uX4_isTrade_X4 hown hK hP 0 rfl rfl 7 (by decide) (hts _ mX4_isTrade_0) (fun _ h9 => h9) rfl dX4_isTrade_3 ?_
  refine va_get (D := (dC, dI)) (ci := 1) (v := .int o_told_trades) (C := RX1) (T := TX1) (N := 9) hx hb hts uX4_isTrade_X1 hown hK hP 1 rfl rfl 0 (by decide) (hts _ mX4_isTrade_1) (fun _ h9 => h9) rfl dX4_isTrade_6 ?_
  refine lv_iconst (v := (1 : Int32)) hx hb dX4_isTrade_9 (by decide) ?_
  refine lv_isub hx hb dX4_isTrade_10 ?_
  obtain ⟨r_1, hc, hf⟩ := pb1 hf
  refine gCi (va_runS (As := [.int i1, .int (0 : Int32), .int (o_told_trades - (1 : Int32))]) (rest := []) hF (kX4_within l dC dI Z cC cI cZ cW  _  i1 (0 : Int32) (o_told_trades - (1 : Int32)) N r_1 hc) (cwS 3 hts gX4_isTrade_X4_within rfl rfl rfl (by decide +kernel) ⟨Nat.le_of_ble_eq_true rfl, Nat.le_of_ble_eq_true rfl⟩) (gPS (wc := []) hK hN hA hS hP hD [] rfl rfl) rfl rfl hl.1 rfl (lv_room (Nat.le_of_ble_eq_true rfl)) dX4_isTrade_11 ⟨Nat.zero_le _, Nat.zero_le _⟩) hP hD hS hA [] rfl rfl rfl (fun H locs hP hD hS => ?_)
  have hP : va_P (dC, dI) vwCl [(a_o, .inr (4, [.ref a_o_text, .ref a_o_tunes, .ref a_o_present, .ref a_o_ahead, .ref a_o_images, .ref a_o_kept, .ref a_o_order, .ref a_o_told, .ref a_o_draft, .long o_trace])), (a_o_told, .inr (1, [.int o_told_trades, .int o_told_people, .ref a_o_told_needs, .ref a_o_told_yields, .ref a_o_told_skips, .ref a_o_told_skills, .ref a_o_told_places, .ref a_o_told_wheel, .int o_told_tradesEnded]))] H := hP
  have hD : va_D A [(a_o, .inr (4, [.ref a_o_text, .ref a_o_tunes, .ref a_o_present, .ref a_o_ahead, .ref a_o_images, .ref a_o_kept, .ref a_o_order, .ref a_o_told, .ref a_o_draft, .long o_trace])), (a_o_told, .inr (1, [.int o_told_trades, .int o_told_people, .ref a_o_told_needs, .ref a_o_told_yields, .ref a_o_told_skips, .ref a_o_told_skills, .ref a_o_told_places, .ref a_o_told_wheel, .int o_told_tradesEnded]))] := hD
  obtain ⟨hbz, hf⟩ := pgb hf
  have q0 := Option.some.inj hf
  subst q0
  exact gRz hx hb hr (nar_b hbz) hlocks hP hS dX4_isTrade_14
abbrev rmX4_trade : Room := { frames := 2, cells := 0, slots := 0, locals := 43 }
set_option maxRecDepth 20000 in
theorem uX4_trade_X1 : ∀ w ∈ wsX10, w ∈ wsX4_trade := by decide +kernel
set_option maxRecDepth 20000 in
theorem uX4_trade_X3 : ∀ w ∈ wsX30, w ∈ wsX4_trade := by decide +kernel
set_option maxRecDepth 20000 in
theorem uX4_trade_X4 : ∀ w ∈ wsX40, w ∈ wsX4_trade := by decide +kernel
set_option maxRecDepth 20000 in
theorem mX4_trade_0 : (Cond.fieldLink RX4 48 "TradeWheel" "told" "LTradeWheel$Told;" : Cond) ∈ wsX4_trade := by decide +kernel
set_option maxRecDepth 20000 in
theorem mX4_trade_1 : (Cond.fieldLink RX4 90 "TradeWheel$Told" "needs" "[I" : Cond) ∈ wsX4_trade := by decide +kernel
set_option maxRecDepth 20000 in
theorem mX4_trade_2 : (Cond.fieldLink RX4 93 "TradeWheel$Told" "yields" "[I" : Cond) ∈ wsX4_trade := by decide +kernel
set_option maxRecDepth 20000 in
theorem mX4_trade_3 : (Cond.fieldLink RX4 26 "TradeWheel" "present" "LTradeWheel$World;" : Cond) ∈ wsX4_trade := by decide +kernel
set_option maxRecDepth 20000 in
theorem mX4_trade_4 : (Cond.fieldLink RX4 96 "TradeWheel$World" "stores" "[I" : Cond) ∈ wsX4_trade := by decide +kernel
set_option maxRecDepth 20000 in
theorem mX4_trade_5 : (Cond.fieldLink RX4 99 "TradeWheel$World" "lacked" "[I" : Cond) ∈ wsX4_trade := by decide +kernel
set_option maxHeartbeats 4000000 in
set_option maxRecDepth 100000 in
theorem kX4_trade (l : Launch) (dC : Nat → ClassId) (dI : Nat → Nat → Nat) (Z : gZ) (cC cI cZ cW : ClassId) (a_o a_o_text a_o_tunes a_o_present a_o_ahead a_o_images a_o_kept a_o_order a_o_told a_o_draft a_o_present_skills a_o_present_places a_o_present_stores a_o_present_lacked a_o_present_helpers a_o_present_favours a_o_present_wheel a_o_present_works a_o_told_needs a_o_told_yields a_o_told_skips a_o_told_skills a_o_told_places a_o_told_wheel : Nat) (sz : Nat) (o_trace : Int64) (o_present_round : Int32) (o_present_fell : Int32) (o_present_ills : Int32) (o_present_stores : Nat → Int32) (o_present_lacked : Nat → Int32) (o_told_trades : Int32) (o_told_people : Int32) (o_told_tradesEnded : Int32) (o_told_needs : Nat → Int32) (o_told_yields : Nat → Int32) (i1 : Int32) (i2 : Int32) (N : Nat) (r' : Int32) (hf : fX4_trade N o_present_stores o_present_lacked o_told_trades o_told_needs o_told_yields  i1 i2 = some r') : Met l yX4_trade wsX4_trade rmX4_trade (va_Pc [.ref a_o, .int i1, .int i2] (gB (dC, dI) Z [(cC, .char), (cI, .int), (cZ, .boolean), (cW, .object RX3)] [(a_o, .inr (4, [.ref a_o_text, .ref a_o_tunes, .ref a_o_present, .ref a_o_ahead, .ref a_o_images, .ref a_o_kept, .ref a_o_order, .ref a_o_told, .ref a_o_draft, .long o_trace])), (a_o_present, .inr (3, [.int o_present_round, .int o_present_fell, .int o_present_ills, .ref a_o_present_skills, .ref a_o_present_places, .ref a_o_present_stores, .ref a_o_present_lacked, .ref a_o_present_helpers, .ref a_o_present_favours, .ref a_o_present_wheel, .ref a_o_present_works])), (a_o_present_stores, .inl (cI, 6, .inl o_present_stores)), (a_o_present_lacked, .inl (cI, 6, .inl o_present_lacked)), (a_o_told, .inr (1, [.int o_told_trades, .int o_told_people, .ref a_o_told_needs, .ref a_o_told_yields, .ref a_o_told_skips, .ref a_o_told_skills, .ref a_o_told_places, .ref a_o_told_wheel, .int o_told_tradesEnded])), (a_o_told_needs, .inl (cI, 6, .inl o_told_needs)), (a_o_told_yields, .inl (cI, 6, .inl o_told_yields))] sz)) (va_Qi (fun (r : Int32) (_ : Unit) => r = r') (gE (dC, dI) [(a_o, .inr (4, [.ref a_o_text, .ref a_o_tunes, .ref a_o_present, .ref a_o_ahead, .ref a_o_images, .ref a_o_kept, .ref a_o_order, .ref a_o_told, .ref a_o_draft, .long o_trace])), (a_o_present, .inr (3, [.int o_present_round, .int o_present_fell, .int o_present_ills, .ref a_o_present_skills, .ref a_o_present_places, .ref a_o_present_stores, .ref a_o_present_lacked, .ref a_o_present_helpers, .ref a_o_present_favours, .ref a_o_present_wheel, .ref a_o_present_works])), (a_o_present_stores, .inl (cI, 6, .inl o_present_stores)), (a_o_present_lacked, .inl (cI, 6, .inl o_present_lacked)), (a_o_told, .inr (1, [.int o_told_trades, .int o_told_people, .ref a_o_told_needs, .ref a_o_told_yields, .ref a_o_told_skips, .ref a_o_told_skills, .ref a_o_told_places, .ref a_o_told_wheel, .int o_told_tradesEnded])), (a_o_told_needs, .inl (cI, 6, .inl o_told_needs)), (a_o_told_yields, .inl (cI, 6, .inl o_told_yields))]) (va_A [(a_o, .inr (4, [.ref a_o_text, .ref a_o_tunes, .ref a_o_present, .ref a_o_ahead, .ref a_o_images, .ref a_o_kept, .ref a_o_order, .ref a_o_told, .ref a_o_draft, .long o_trace])), (a_o_present, .inr (3, [.int o_present_round, .int o_present_fell, .int o_present_ills, .ref a_o_present_skills, .ref a_o_present_places, .ref a_o_present_stores, .ref a_o_present_lacked, .ref a_o_present_helpers, .ref a_o_present_favours, .ref a_o_present_wheel, .ref a_o_present_works])), (a_o_present_stores, .inl (cI, 6, .inl o_present_stores)), (a_o_present_lacked, .inl (cI, 6, .inl o_present_lacked)), (a_o_told, .inr (1, [.int o_told_trades, .int o_told_people, .ref a_o_told_needs, .ref a_o_told_yields, .ref a_o_told_skips, .ref a_o_told_skills, .ref a_o_told_places, .ref a_o_told_wheel, .int o_told_tradesEnded])), (a_o_told_needs, .inl (cI, 6, .inl o_told_needs)), (a_o_told_yields, .inl (cI, 6, .inl o_told_yields))] sz)) 0 0 (va_A [(a_o, .inr (4, [.ref a_o_text, .ref a_o_tunes, .ref a_o_present, .ref a_o_ahead, .ref a_o_images, .ref a_o_kept, .ref a_o_order, .ref a_o_told, .ref a_o_draft, .long o_trace])), (a_o_present, .inr (3, [.int o_present_round, .int o_present_fell, .int o_present_ills, .ref a_o_present_skills, .ref a_o_present_places, .ref a_o_present_stores, .ref a_o_present_lacked, .ref a_o_present_helpers, .ref a_o_present_favours, .ref a_o_present_wheel, .ref a_o_present_works])), (a_o_present_stores, .inl (cI, 6, .inl o_present_stores)), (a_o_present_lacked, .inl (cI, 6, .inl o_present_lacked)), (a_o_told, .inr (1, [.int o_told_trades, .int o_told_people, .ref a_o_told_needs, .ref a_o_told_yields, .ref a_o_told_skips, .ref a_o_told_skills, .ref a_o_told_places, .ref a_o_told_wheel, .int o_told_tradesEnded])), (a_o_told_needs, .inl (cI, 6, .inl o_told_needs)), (a_o_told_yields, .inl (cI, 6, .inl o_told_yields))] sz) := by
  refine gMet (cc := cX4_trade) (maxL := 3) (ret := (some .int)) (Qc := fun A => va_Qi (fun (r : Int32) (_ : Unit) => r = r') (gE (dC, dI) [(a_o, .inr (4, [.ref a_o_text, .ref a_o_tunes, .ref a_o_present, .ref a_o_ahead, .ref a_o_images, .ref a_o_kept, .ref a_o_order, .ref a_o_told, .ref a_o_draft, .long o_trace])), (a_o_present, .inr (3, [.int o_present_round, .int o_present_fell, .int o_present_ills, .ref a_o_present_skills, .ref a_o_present_places, .ref a_o_present_stores, .ref a_o_present_lacked, .ref a_o_present_helpers, .ref a_o_present_favours, .ref a_o_present_wheel, .ref a_o_present_works])), (a_o_present_stores, .inl (cI, 6, .inl o_present_stores)), (a_o_present_lacked, .inl (cI, 6, .inl o_present_lacked)), (a_o_told, .inr (1, [.int o_told_trades, .int o_told_people, .ref a_o_told_needs, .ref a_o_told_yields, .ref a_o_told_skips, .ref a_o_told_skills, .ref a_o_told_places, .ref a_o_told_wheel, .int o_told_tradesEnded])), (a_o_told_needs, .inl (cI, 6, .inl o_told_needs)), (a_o_told_yields, .inl (cI, 6, .inl o_told_yields))]) A) (by decide) rfl (Nat.le_of_ble_eq_true rfl) ?_
  intro p e s m below meth c A ls hg0 _ hsz hP hD hS hl
  have hg0 : gX p s m _ meth c cX4_trade 3 (some .int) wsX4_trade RX4 (dC, dI) Z [(cC, .char), (cI, .int), (cZ, .boolean), (cW, .object RX3)] A := hg0
  obtain ⟨hx, hb, hr, hml, hown, hts, hlocks, hA, hK, hN⟩ := id hg0
  subst hsz
  have hF : CallFix p m c cX4_trade 3 s _ wsX4_trade RX4 := ⟨hx, hb, hml, hown, hts⟩
  have hl : lv_has ls 3 [(0, .ref a_o), (1, .int i1), (2, .int i2)] := hl
  unfold fX4_trade at hf
  refine lv_aload_n hx hb dX4_trade_0 rfl (lv_at hl 0 rfl) ?_
  refine lv_iload_n hx hb dX4_trade_1 rfl (lv_at hl 1 rfl) ?_
  obtain ⟨r_1, hc, hf⟩ := pb1 hf
  refine gCi (va_runV (As := [.int i1]) (rest := []) hF (kX4_isTrade l dC dI Z cC cI cZ cW a_o a_o_text a_o_tunes a_o_present a_o_ahead a_o_images a_o_kept a_o_order a_o_told a_o_draft a_o_told_needs a_o_told_yields a_o_told_skips a_o_told_skills a_o_told_places a_o_told_wheel _ o_trace o_told_trades o_told_people o_told_tradesEnded i1 N r_1 hc) (cwV 1 hts gX4_trade_X4_isTrade rfl rfl rfl (by decide +kernel) ⟨Nat.le_of_ble_eq_true rfl, Nat.le_of_ble_eq_true rfl⟩) (gPV (wc := [(a_o, .inr (4, [.ref a_o_text, .ref a_o_tunes, .ref a_o_present, .ref a_o_ahead, .ref a_o_images, .ref a_o_kept, .ref a_o_order, .ref a_o_told, .ref a_o_draft, .long o_trace])), (a_o_told, .inr (1, [.int o_told_trades, .int o_told_people, .ref a_o_told_needs, .ref a_o_told_yields, .ref a_o_told_skips, .ref a_o_told_skills, .ref a_o_told_places, .ref a_o_told_wheel, .int o_told_tradesEnded]))]) hK hN hA hS hP hD [0, 4] rfl rfl (q0 := 0) (ci := 4) rfl rfl rfl) rfl rfl hl.1 rfl (lv_room (Nat.le_of_ble_eq_true rfl)) dX4_trade_2 ⟨Nat.zero_le _, Nat.zero_le _⟩) hP hD hS hA [0, 4] rfl rfl rfl (fun H locs hP hD hS => ?_)
  have hP : va_P (dC, dI) vwCl [(a_o, .inr (4, [.ref a_o_text, .ref a_o_tunes, .ref a_o_present, .ref a_o_ahead, .ref a_o_images, .ref a_o_kept, .ref a_o_order, .ref a_o_told, .ref a_o_draft, .long o_trace])), (a_o_present, .inr (3, [.int o_present_round, .int o_present_fell, .int o_present_ills, .ref a_o_present_skills, .ref a_o_present_places, .ref a_o_present_stores, .ref a_o_present_lacked, .ref a_o_present_helpers, .ref a_o_present_favours, .ref a_o_present_wheel, .ref a_o_present_works])), (a_o_present_stores, .inl (cI, 6, .inl o_present_stores)), (a_o_present_lacked, .inl (cI, 6, .inl o_present_lacked)), (a_o_told, .inr (1, [.int o_told_trades, .int o_told_people, .ref a_o_told_needs, .ref a_o_told_yields, .ref a_o_told_skips, .ref a_o_told_skills, .ref a_o_told_places, .ref a_o_told_wheel, .int o_told_tradesEnded])), (a_o_told_needs, .inl (cI, 6, .inl o_told_needs)), (a_o_told_yields, .inl (cI, 6, .inl o_told_yields))] H := hP
  have hD : va_D A [(a_o, .inr (4, [.ref a_o_text, .ref a_o_tunes, .ref a_o_present, .ref a_o_ahead, .ref a_o_images, .ref a_o_kept, .ref a_o_order, .ref a_o_told, .ref a_o_draft, .long o_trace])), (a_o_present, .inr (3, [.int o_present_round, .int o_present_fell, .int o_present_ills, .ref a_o_present_skills, .ref a_o_present_places, .ref a_o_present_stores, .ref a_o_present_lacked, .ref a_o_present_helpers, .ref a_o_present_favours, .ref a_o_present_wheel, .ref a_o_present_works])), (a_o_present_stores, .inl (cI, 6, .inl o_present_stores)), (a_o_present_lacked, .inl (cI, 6, .inl o_present_lacked)), (a_o_told, .inr (1, [.int o_told_trades, .int o_told_people, .ref a_o_told_needs, .ref a_o_told_yields, .ref a_o_told_skips, .ref a_o_told_skills, .ref a_o_told_places, .ref a_o_told_wheel, .int o_told_tradesEnded])), (a_o_told_needs, .inl (cI, 6, .inl o_told_needs)), (a_o_told_yields, .inl (cI, 6, .inl o_told_yields))] := hD
  refine lv_if_ne (tgt := 10) hx hb dX4_trade_5 (by decide) (fun c_2 => ?_) (fun c_2 => ?_)
  · have hf := pif hf c_2
    refine lv_iload_n hx hb dX4_trade_10 rfl (lv_at hl 2 rfl) ?_
    by_cases c_7 : i2 = (0 : Int32)
    · have hf := pit hf c_7
      refine gTab (off := 29) (tgt := 40) hx hb c_7 dX4_trade_11 (by decide) (by decide) (by decide) (by decide) ?_
      refine lv_aload_n hx hb dX4_trade_40 rfl (lv_at hl 0 rfl) ?_
      refine va_get (D := (dC, dI)) (ci := 4) (v := .ref a_o_told) (C := RX4) (T := TX4) (N := 10) hx hb hts uX4_trade_X4 hown hK hP 0 rfl rfl 7 (by decide) (hts _ mX4_trade_0) (fun _ h9 => h9) rfl dX4_trade_41 ?_
      refine va_get (D := (dC, dI)) (ci := 1) (v := .ref a_o_told_needs) (C := RX1) (T := TX1) (N := 9) hx hb hts uX4_trade_X1 hown hK hP 4 rfl rfl 2 (by decide) (hts _ mX4_trade_1) (fun _ h9 => h9) rfl dX4_trade_44 ?_
      refine lv_iload_n hx hb dX4_trade_47 rfl (lv_at hl 1 rfl) ?_
      obtain ⟨h_3, hf⟩ := pgd hf
      refine va_iald hx hb hK hP 5 1 rfl rfl h_3 dX4_trade_48 ?_
      have q0 := Option.some.inj hf
      subst q0
      exact gRi hx hb hr hlocks hP hS dX4_trade_49
    · have hf := pif hf c_7
      by_cases c_8 : i2 = (1 : Int32)
      · have hf := pit hf c_8
        refine gTab (off := 39) (tgt := 50) hx hb c_8 dX4_trade_11 (by decide) (by decide) (by decide) (by decide) ?_
        refine lv_aload_n hx hb dX4_trade_50 rfl (lv_at hl 0 rfl) ?_
        refine va_get (D := (dC, dI)) (ci := 4) (v := .ref a_o_told) (C := RX4) (T := TX4) (N := 10) hx hb hts uX4_trade_X4 hown hK hP 0 rfl rfl 7 (by decide) (hts _ mX4_trade_0) (fun _ h9 => h9) rfl dX4_trade_51 ?_
        refine va_get (D := (dC, dI)) (ci := 1) (v := .ref a_o_told_yields) (C := RX1) (T := TX1) (N := 9) hx hb hts uX4_trade_X1 hown hK hP 4 rfl rfl 3 (by decide) (hts _ mX4_trade_2) (fun _ h9 => h9) rfl dX4_trade_54 ?_
        refine lv_iload_n hx hb dX4_trade_57 rfl (lv_at hl 1 rfl) ?_
        obtain ⟨h_4, hf⟩ := pgd hf
        refine va_iald hx hb hK hP 6 1 rfl rfl h_4 dX4_trade_58 ?_
        have q0 := Option.some.inj hf
        subst q0
        exact gRi hx hb hr hlocks hP hS dX4_trade_59
      · have hf := pif hf c_8
        by_cases c_9 : i2 = (2 : Int32)
        · have hf := pit hf c_9
          refine gTab (off := 49) (tgt := 60) hx hb c_9 dX4_trade_11 (by decide) (by decide) (by decide) (by decide) ?_
          refine lv_aload_n hx hb dX4_trade_60 rfl (lv_at hl 0 rfl) ?_
          refine va_get (D := (dC, dI)) (ci := 4) (v := .ref a_o_present) (C := RX4) (T := TX4) (N := 10) hx hb hts uX4_trade_X4 hown hK hP 0 rfl rfl 2 (by decide) (hts _ mX4_trade_3) (fun _ h9 => h9) rfl dX4_trade_61 ?_
          refine va_get (D := (dC, dI)) (ci := 3) (v := .ref a_o_present_stores) (C := RX3) (T := TX3) (N := 11) hx hb hts uX4_trade_X3 hown hK hP 1 rfl rfl 5 (by decide) (hts _ mX4_trade_4) (fun _ h9 => h9) rfl dX4_trade_64 ?_
          refine lv_iload_n hx hb dX4_trade_67 rfl (lv_at hl 1 rfl) ?_
          obtain ⟨h_5, hf⟩ := pgd hf
          refine va_iald hx hb hK hP 2 1 rfl rfl h_5 dX4_trade_68 ?_
          have q0 := Option.some.inj hf
          subst q0
          exact gRi hx hb hr hlocks hP hS dX4_trade_69
        · have hf := pif hf c_9
          by_cases c_10 : i2 = (3 : Int32)
          · have hf := pit hf c_10
            refine gTab (off := 59) (tgt := 70) hx hb c_10 dX4_trade_11 (by decide) (by decide) (by decide) (by decide) ?_
            refine lv_aload_n hx hb dX4_trade_70 rfl (lv_at hl 0 rfl) ?_
            refine va_get (D := (dC, dI)) (ci := 4) (v := .ref a_o_present) (C := RX4) (T := TX4) (N := 10) hx hb hts uX4_trade_X4 hown hK hP 0 rfl rfl 2 (by decide) (hts _ mX4_trade_3) (fun _ h9 => h9) rfl dX4_trade_71 ?_
            refine va_get (D := (dC, dI)) (ci := 3) (v := .ref a_o_present_lacked) (C := RX3) (T := TX3) (N := 11) hx hb hts uX4_trade_X3 hown hK hP 1 rfl rfl 6 (by decide) (hts _ mX4_trade_5) (fun _ h9 => h9) rfl dX4_trade_74 ?_
            refine lv_iload_n hx hb dX4_trade_77 rfl (lv_at hl 1 rfl) ?_
            obtain ⟨h_6, hf⟩ := pgd hf
            refine va_iald hx hb hK hP 3 1 rfl rfl h_6 dX4_trade_78 ?_
            have q0 := Option.some.inj hf
            subst q0
            exact gRi hx hb hr hlocks hP hS dX4_trade_79
          · have hf := pif hf c_10
            have c_7 := ti_ne (k := 0) c_7 (by decide)
            have c_8 := ti_ne (k := 1) c_8 (by decide)
            have c_9 := ti_ne (k := 2) c_9 (by decide)
            have c_10 := ti_ne (k := 3) c_10 (by decide)
            refine lv_tableOut (tgt := 80) hx hb dX4_trade_11 (by omega) (by decide) ?_
            refine lv_iconst (v := (-1 : Int32)) hx hb dX4_trade_80 (by decide) ?_
            have q0 := Option.some.inj hf
            subst q0
            exact gRi hx hb hr hlocks hP hS dX4_trade_81
  · have hf := pit hf c_2
    refine lv_iconst (v := (-1 : Int32)) hx hb dX4_trade_8 (by decide) ?_
    have q0 := Option.some.inj hf
    subst q0
    exact gRi hx hb hr hlocks hP hS dX4_trade_9
abbrev rmX4_isPerson : Room := { frames := 1, cells := 0, slots := 0, locals := 22 }
set_option maxRecDepth 20000 in
theorem uX4_isPerson_X1 : ∀ w ∈ wsX10, w ∈ wsX4_isPerson := by decide +kernel
set_option maxRecDepth 20000 in
theorem uX4_isPerson_X4 : ∀ w ∈ wsX40, w ∈ wsX4_isPerson := by decide +kernel
set_option maxRecDepth 20000 in
theorem mX4_isPerson_0 : (Cond.fieldLink RX4 48 "TradeWheel" "told" "LTradeWheel$Told;" : Cond) ∈ wsX4_isPerson := by decide +kernel
set_option maxRecDepth 20000 in
theorem mX4_isPerson_1 : (Cond.fieldLink RX4 197 "TradeWheel$Told" "people" "I" : Cond) ∈ wsX4_isPerson := by decide +kernel
set_option maxHeartbeats 4000000 in
set_option maxRecDepth 100000 in
theorem kX4_isPerson (l : Launch) (dC : Nat → ClassId) (dI : Nat → Nat → Nat) (Z : gZ) (cC cI cZ cW : ClassId) (a_o a_o_text a_o_tunes a_o_present a_o_ahead a_o_images a_o_kept a_o_order a_o_told a_o_draft a_o_told_needs a_o_told_yields a_o_told_skips a_o_told_skills a_o_told_places a_o_told_wheel : Nat) (sz : Nat) (o_trace : Int64) (o_told_trades : Int32) (o_told_people : Int32) (o_told_tradesEnded : Int32) (i1 : Int32) (N : Nat) (r' : Int32) (hf : fX4_isPerson N o_told_people  i1 = some r') : Met l yX4_isPerson wsX4_isPerson rmX4_isPerson (va_Pc [.ref a_o, .int i1] (gB (dC, dI) Z [(cC, .char), (cI, .int), (cZ, .boolean), (cW, .object RX3)] [(a_o, .inr (4, [.ref a_o_text, .ref a_o_tunes, .ref a_o_present, .ref a_o_ahead, .ref a_o_images, .ref a_o_kept, .ref a_o_order, .ref a_o_told, .ref a_o_draft, .long o_trace])), (a_o_told, .inr (1, [.int o_told_trades, .int o_told_people, .ref a_o_told_needs, .ref a_o_told_yields, .ref a_o_told_skips, .ref a_o_told_skills, .ref a_o_told_places, .ref a_o_told_wheel, .int o_told_tradesEnded]))] sz)) (va_Qi (fun (r : Int32) (_ : Unit) => r = r') (gE (dC, dI) [(a_o, .inr (4, [.ref a_o_text, .ref a_o_tunes, .ref a_o_present, .ref a_o_ahead, .ref a_o_images, .ref a_o_kept, .ref a_o_order, .ref a_o_told, .ref a_o_draft, .long o_trace])), (a_o_told, .inr (1, [.int o_told_trades, .int o_told_people, .ref a_o_told_needs, .ref a_o_told_yields, .ref a_o_told_skips, .ref a_o_told_skills, .ref a_o_told_places, .ref a_o_told_wheel, .int o_told_tradesEnded]))]) (va_A [(a_o, .inr (4, [.ref a_o_text, .ref a_o_tunes, .ref a_o_present, .ref a_o_ahead, .ref a_o_images, .ref a_o_kept, .ref a_o_order, .ref a_o_told, .ref a_o_draft, .long o_trace])), (a_o_told, .inr (1, [.int o_told_trades, .int o_told_people, .ref a_o_told_needs, .ref a_o_told_yields, .ref a_o_told_skips, .ref a_o_told_skills, .ref a_o_told_places, .ref a_o_told_wheel, .int o_told_tradesEnded]))] sz)) 0 0 (va_A [(a_o, .inr (4, [.ref a_o_text, .ref a_o_tunes, .ref a_o_present, .ref a_o_ahead, .ref a_o_images, .ref a_o_kept, .ref a_o_order, .ref a_o_told, .ref a_o_draft, .long o_trace])), (a_o_told, .inr (1, [.int o_told_trades, .int o_told_people, .ref a_o_told_needs, .ref a_o_told_yields, .ref a_o_told_skips, .ref a_o_told_skills, .ref a_o_told_places, .ref a_o_told_wheel, .int o_told_tradesEnded]))] sz) := by
  refine gMet (cc := cX4_isPerson) (maxL := 2) (ret := (some .boolean)) (Qc := fun A => va_Qi (fun (r : Int32) (_ : Unit) => r = r') (gE (dC, dI) [(a_o, .inr (4, [.ref a_o_text, .ref a_o_tunes, .ref a_o_present, .ref a_o_ahead, .ref a_o_images, .ref a_o_kept, .ref a_o_order, .ref a_o_told, .ref a_o_draft, .long o_trace])), (a_o_told, .inr (1, [.int o_told_trades, .int o_told_people, .ref a_o_told_needs, .ref a_o_told_yields, .ref a_o_told_skips, .ref a_o_told_skills, .ref a_o_told_places, .ref a_o_told_wheel, .int o_told_tradesEnded]))]) A) (by decide) rfl (Nat.le_of_ble_eq_true rfl) ?_
  intro p e s m below meth c A ls hg0 _ hsz hP hD hS hl
  have hg0 : gX p s m _ meth c cX4_isPerson 2 (some .boolean) wsX4_isPerson RX4 (dC, dI) Z [(cC, .char), (cI, .int), (cZ, .boolean), (cW, .object RX3)] A := hg0
  obtain ⟨hx, hb, hr, hml, hown, hts, hlocks, hA, hK, hN⟩ := id hg0
  subst hsz
  have hF : CallFix p m c cX4_isPerson 2 s _ wsX4_isPerson RX4 := ⟨hx, hb, hml, hown, hts⟩
  have hl : lv_has ls 2 [(0, .ref a_o), (1, .int i1)] := hl
  unfold fX4_isPerson at hf
  refine lv_iload_n hx hb dX4_isPerson_0 rfl (lv_at hl 1 rfl) ?_
  refine lv_iconst (v := (0 : Int32)) hx hb dX4_isPerson_1 (by decide) ?_
  refine lv_aload_n hx hb dX4_isPerson_2 rfl (lv_at hl 0 rfl) ?_
  refine va_get (D := (dC, dI)) (ci := 4) (v := .ref a_o_told) (C := RX4) (T := TX4) (N := 10) hx hb hts uX4_isPerson_X4 hown hK hP 0 rfl rfl 7 (by decide) (hts _ mX4_isPerson_0) (fun _ h9 => h9) rfl dX4_isPerson_3 ?_
  refine va_get (D := (dC, dI)) (ci := 1) (v := .int o_told_people) (C := RX1) (T := TX1) (N := 9) hx hb hts uX4_isPerson_X1 hown hK hP 1 rfl rfl 1 (by decide) (hts _ mX4_isPerson_1) (fun _ h9 => h9) rfl dX4_isPerson_6 ?_
  refine lv_iconst (v := (1 : Int32)) hx hb dX4_isPerson_9 (by decide) ?_
  refine lv_isub hx hb dX4_isPerson_10 ?_
  obtain ⟨r_1, hc, hf⟩ := pb1 hf
  refine gCi (va_runS (As := [.int i1, .int (0 : Int32), .int (o_told_people - (1 : Int32))]) (rest := []) hF (kX4_within l dC dI Z cC cI cZ cW  _  i1 (0 : Int32) (o_told_people - (1 : Int32)) N r_1 hc) (cwS 3 hts gX4_isPerson_X4_within rfl rfl rfl (by decide +kernel) ⟨Nat.le_of_ble_eq_true rfl, Nat.le_of_ble_eq_true rfl⟩) (gPS (wc := []) hK hN hA hS hP hD [] rfl rfl) rfl rfl hl.1 rfl (lv_room (Nat.le_of_ble_eq_true rfl)) dX4_isPerson_11 ⟨Nat.zero_le _, Nat.zero_le _⟩) hP hD hS hA [] rfl rfl rfl (fun H locs hP hD hS => ?_)
  have hP : va_P (dC, dI) vwCl [(a_o, .inr (4, [.ref a_o_text, .ref a_o_tunes, .ref a_o_present, .ref a_o_ahead, .ref a_o_images, .ref a_o_kept, .ref a_o_order, .ref a_o_told, .ref a_o_draft, .long o_trace])), (a_o_told, .inr (1, [.int o_told_trades, .int o_told_people, .ref a_o_told_needs, .ref a_o_told_yields, .ref a_o_told_skips, .ref a_o_told_skills, .ref a_o_told_places, .ref a_o_told_wheel, .int o_told_tradesEnded]))] H := hP
  have hD : va_D A [(a_o, .inr (4, [.ref a_o_text, .ref a_o_tunes, .ref a_o_present, .ref a_o_ahead, .ref a_o_images, .ref a_o_kept, .ref a_o_order, .ref a_o_told, .ref a_o_draft, .long o_trace])), (a_o_told, .inr (1, [.int o_told_trades, .int o_told_people, .ref a_o_told_needs, .ref a_o_told_yields, .ref a_o_told_skips, .ref a_o_told_skills, .ref a_o_told_places, .ref a_o_told_wheel, .int o_told_tradesEnded]))] := hD
  obtain ⟨hbz, hf⟩ := pgb hf
  have q0 := Option.some.inj hf
  subst q0
  exact gRz hx hb hr (nar_b hbz) hlocks hP hS dX4_isPerson_14
abbrev rmX4_skill : Room := { frames := 2, cells := 0, slots := 0, locals := 43 }
set_option maxRecDepth 20000 in
theorem uX4_skill_X3 : ∀ w ∈ wsX30, w ∈ wsX4_skill := by decide +kernel
set_option maxRecDepth 20000 in
theorem uX4_skill_X4 : ∀ w ∈ wsX40, w ∈ wsX4_skill := by decide +kernel
set_option maxRecDepth 20000 in
theorem mX4_skill_0 : (Cond.fieldLink RX4 26 "TradeWheel" "present" "LTradeWheel$World;" : Cond) ∈ wsX4_skill := by decide +kernel
set_option maxRecDepth 20000 in
theorem mX4_skill_1 : (Cond.fieldLink RX4 105 "TradeWheel$World" "skills" "[I" : Cond) ∈ wsX4_skill := by decide +kernel
set_option maxHeartbeats 4000000 in
set_option maxRecDepth 100000 in
theorem kX4_skill (l : Launch) (dC : Nat → ClassId) (dI : Nat → Nat → Nat) (Z : gZ) (cC cI cZ cW : ClassId) (a_o a_o_text a_o_tunes a_o_present a_o_ahead a_o_images a_o_kept a_o_order a_o_told a_o_draft a_o_present_skills a_o_present_places a_o_present_stores a_o_present_lacked a_o_present_helpers a_o_present_favours a_o_present_wheel a_o_present_works a_o_told_needs a_o_told_yields a_o_told_skips a_o_told_skills a_o_told_places a_o_told_wheel : Nat) (sz : Nat) (o_trace : Int64) (o_present_round : Int32) (o_present_fell : Int32) (o_present_ills : Int32) (o_present_skills : Nat → Int32) (o_told_trades : Int32) (o_told_people : Int32) (o_told_tradesEnded : Int32) (i1 : Int32) (i2 : Int32) (N : Nat) (r' : Int32) (hf : fX4_skill N o_present_skills o_told_trades o_told_people  i1 i2 = some r') : Met l yX4_skill wsX4_skill rmX4_skill (va_Pc [.ref a_o, .int i1, .int i2] (gB (dC, dI) Z [(cC, .char), (cI, .int), (cZ, .boolean), (cW, .object RX3)] [(a_o, .inr (4, [.ref a_o_text, .ref a_o_tunes, .ref a_o_present, .ref a_o_ahead, .ref a_o_images, .ref a_o_kept, .ref a_o_order, .ref a_o_told, .ref a_o_draft, .long o_trace])), (a_o_present, .inr (3, [.int o_present_round, .int o_present_fell, .int o_present_ills, .ref a_o_present_skills, .ref a_o_present_places, .ref a_o_present_stores, .ref a_o_present_lacked, .ref a_o_present_helpers, .ref a_o_present_favours, .ref a_o_present_wheel, .ref a_o_present_works])), (a_o_present_skills, .inl (cI, 36, .inl o_present_skills)), (a_o_told, .inr (1, [.int o_told_trades, .int o_told_people, .ref a_o_told_needs, .ref a_o_told_yields, .ref a_o_told_skips, .ref a_o_told_skills, .ref a_o_told_places, .ref a_o_told_wheel, .int o_told_tradesEnded]))] sz)) (va_Qi (fun (r : Int32) (_ : Unit) => r = r') (gE (dC, dI) [(a_o, .inr (4, [.ref a_o_text, .ref a_o_tunes, .ref a_o_present, .ref a_o_ahead, .ref a_o_images, .ref a_o_kept, .ref a_o_order, .ref a_o_told, .ref a_o_draft, .long o_trace])), (a_o_present, .inr (3, [.int o_present_round, .int o_present_fell, .int o_present_ills, .ref a_o_present_skills, .ref a_o_present_places, .ref a_o_present_stores, .ref a_o_present_lacked, .ref a_o_present_helpers, .ref a_o_present_favours, .ref a_o_present_wheel, .ref a_o_present_works])), (a_o_present_skills, .inl (cI, 36, .inl o_present_skills)), (a_o_told, .inr (1, [.int o_told_trades, .int o_told_people, .ref a_o_told_needs, .ref a_o_told_yields, .ref a_o_told_skips, .ref a_o_told_skills, .ref a_o_told_places, .ref a_o_told_wheel, .int o_told_tradesEnded]))]) (va_A [(a_o, .inr (4, [.ref a_o_text, .ref a_o_tunes, .ref a_o_present, .ref a_o_ahead, .ref a_o_images, .ref a_o_kept, .ref a_o_order, .ref a_o_told, .ref a_o_draft, .long o_trace])), (a_o_present, .inr (3, [.int o_present_round, .int o_present_fell, .int o_present_ills, .ref a_o_present_skills, .ref a_o_present_places, .ref a_o_present_stores, .ref a_o_present_lacked, .ref a_o_present_helpers, .ref a_o_present_favours, .ref a_o_present_wheel, .ref a_o_present_works])), (a_o_present_skills, .inl (cI, 36, .inl o_present_skills)), (a_o_told, .inr (1, [.int o_told_trades, .int o_told_people, .ref a_o_told_needs, .ref a_o_told_yields, .ref a_o_told_skips, .ref a_o_told_skills, .ref a_o_told_places, .ref a_o_told_wheel, .int o_told_tradesEnded]))] sz)) 0 0 (va_A [(a_o, .inr (4, [.ref a_o_text, .ref a_o_tunes, .ref a_o_present, .ref a_o_ahead, .ref a_o_images, .ref a_o_kept, .ref a_o_order, .ref a_o_told, .ref a_o_draft, .long o_trace])), (a_o_present, .inr (3, [.int o_present_round, .int o_present_fell, .int o_present_ills, .ref a_o_present_skills, .ref a_o_present_places, .ref a_o_present_stores, .ref a_o_present_lacked, .ref a_o_present_helpers, .ref a_o_present_favours, .ref a_o_present_wheel, .ref a_o_present_works])), (a_o_present_skills, .inl (cI, 36, .inl o_present_skills)), (a_o_told, .inr (1, [.int o_told_trades, .int o_told_people, .ref a_o_told_needs, .ref a_o_told_yields, .ref a_o_told_skips, .ref a_o_told_skills, .ref a_o_told_places, .ref a_o_told_wheel, .int o_told_tradesEnded]))] sz) := by
  refine gMet (cc := cX4_skill) (maxL := 3) (ret := (some .int)) (Qc := fun A => va_Qi (fun (r : Int32) (_ : Unit) => r = r') (gE (dC, dI) [(a_o, .inr (4, [.ref a_o_text, .ref a_o_tunes, .ref a_o_present, .ref a_o_ahead, .ref a_o_images, .ref a_o_kept, .ref a_o_order, .ref a_o_told, .ref a_o_draft, .long o_trace])), (a_o_present, .inr (3, [.int o_present_round, .int o_present_fell, .int o_present_ills, .ref a_o_present_skills, .ref a_o_present_places, .ref a_o_present_stores, .ref a_o_present_lacked, .ref a_o_present_helpers, .ref a_o_present_favours, .ref a_o_present_wheel, .ref a_o_present_works])), (a_o_present_skills, .inl (cI, 36, .inl o_present_skills)), (a_o_told, .inr (1, [.int o_told_trades, .int o_told_people, .ref a_o_told_needs, .ref a_o_told_yields, .ref a_o_told_skips, .ref a_o_told_skills, .ref a_o_told_places, .ref a_o_told_wheel, .int o_told_tradesEnded]))]) A) (by decide) rfl (Nat.le_of_ble_eq_true rfl) ?_
  intro p e s m below meth c A ls hg0 _ hsz hP hD hS hl
  have hg0 : gX p s m _ meth c cX4_skill 3 (some .int) wsX4_skill RX4 (dC, dI) Z [(cC, .char), (cI, .int), (cZ, .boolean), (cW, .object RX3)] A := hg0
  obtain ⟨hx, hb, hr, hml, hown, hts, hlocks, hA, hK, hN⟩ := id hg0
  subst hsz
  have hF : CallFix p m c cX4_skill 3 s _ wsX4_skill RX4 := ⟨hx, hb, hml, hown, hts⟩
  have hl : lv_has ls 3 [(0, .ref a_o), (1, .int i1), (2, .int i2)] := hl
  unfold fX4_skill at hf
  refine lv_aload_n hx hb dX4_skill_0 rfl (lv_at hl 0 rfl) ?_
  refine lv_iload_n hx hb dX4_skill_1 rfl (lv_at hl 1 rfl) ?_
  obtain ⟨r_1, hc, hf⟩ := pb1 hf
  refine gCi (va_runV (As := [.int i1]) (rest := []) hF (kX4_isPerson l dC dI Z cC cI cZ cW a_o a_o_text a_o_tunes a_o_present a_o_ahead a_o_images a_o_kept a_o_order a_o_told a_o_draft a_o_told_needs a_o_told_yields a_o_told_skips a_o_told_skills a_o_told_places a_o_told_wheel _ o_trace o_told_trades o_told_people o_told_tradesEnded i1 N r_1 hc) (cwV 1 hts gX4_skill_X4_isPerson rfl rfl rfl (by decide +kernel) ⟨Nat.le_of_ble_eq_true rfl, Nat.le_of_ble_eq_true rfl⟩) (gPV (wc := [(a_o, .inr (4, [.ref a_o_text, .ref a_o_tunes, .ref a_o_present, .ref a_o_ahead, .ref a_o_images, .ref a_o_kept, .ref a_o_order, .ref a_o_told, .ref a_o_draft, .long o_trace])), (a_o_told, .inr (1, [.int o_told_trades, .int o_told_people, .ref a_o_told_needs, .ref a_o_told_yields, .ref a_o_told_skips, .ref a_o_told_skills, .ref a_o_told_places, .ref a_o_told_wheel, .int o_told_tradesEnded]))]) hK hN hA hS hP hD [0, 3] rfl rfl (q0 := 0) (ci := 4) rfl rfl rfl) rfl rfl hl.1 rfl (lv_room (Nat.le_of_ble_eq_true rfl)) dX4_skill_2 ⟨Nat.zero_le _, Nat.zero_le _⟩) hP hD hS hA [0, 3] rfl rfl rfl (fun H locs hP hD hS => ?_)
  have hP : va_P (dC, dI) vwCl [(a_o, .inr (4, [.ref a_o_text, .ref a_o_tunes, .ref a_o_present, .ref a_o_ahead, .ref a_o_images, .ref a_o_kept, .ref a_o_order, .ref a_o_told, .ref a_o_draft, .long o_trace])), (a_o_present, .inr (3, [.int o_present_round, .int o_present_fell, .int o_present_ills, .ref a_o_present_skills, .ref a_o_present_places, .ref a_o_present_stores, .ref a_o_present_lacked, .ref a_o_present_helpers, .ref a_o_present_favours, .ref a_o_present_wheel, .ref a_o_present_works])), (a_o_present_skills, .inl (cI, 36, .inl o_present_skills)), (a_o_told, .inr (1, [.int o_told_trades, .int o_told_people, .ref a_o_told_needs, .ref a_o_told_yields, .ref a_o_told_skips, .ref a_o_told_skills, .ref a_o_told_places, .ref a_o_told_wheel, .int o_told_tradesEnded]))] H := hP
  have hD : va_D A [(a_o, .inr (4, [.ref a_o_text, .ref a_o_tunes, .ref a_o_present, .ref a_o_ahead, .ref a_o_images, .ref a_o_kept, .ref a_o_order, .ref a_o_told, .ref a_o_draft, .long o_trace])), (a_o_present, .inr (3, [.int o_present_round, .int o_present_fell, .int o_present_ills, .ref a_o_present_skills, .ref a_o_present_places, .ref a_o_present_stores, .ref a_o_present_lacked, .ref a_o_present_helpers, .ref a_o_present_favours, .ref a_o_present_wheel, .ref a_o_present_works])), (a_o_present_skills, .inl (cI, 36, .inl o_present_skills)), (a_o_told, .inr (1, [.int o_told_trades, .int o_told_people, .ref a_o_told_needs, .ref a_o_told_yields, .ref a_o_told_skips, .ref a_o_told_skills, .ref a_o_told_places, .ref a_o_told_wheel, .int o_told_tradesEnded]))] := hD
  refine lv_if_eq (tgt := 16) hx hb dX4_skill_5 (by decide) (fun c_2 => ?_) (fun c_2 => ?_)
  · have hf := pit hf c_2
    refine lv_iconst (v := (-1 : Int32)) hx hb dX4_skill_16 (by decide) ?_
    have q0 := Option.some.inj hf
    subst q0
    exact gRi hx hb hr hlocks hP hS dX4_skill_17
  · have hf := pif hf c_2
    refine lv_aload_n hx hb dX4_skill_8 rfl (lv_at hl 0 rfl) ?_
    refine lv_iload_n hx hb dX4_skill_9 rfl (lv_at hl 2 rfl) ?_
    obtain ⟨r_3, hc, hf⟩ := pb1 hf
    refine gCi (va_runV (As := [.int i2]) (rest := []) hF (kX4_isTrade l dC dI Z cC cI cZ cW a_o a_o_text a_o_tunes a_o_present a_o_ahead a_o_images a_o_kept a_o_order a_o_told a_o_draft a_o_told_needs a_o_told_yields a_o_told_skips a_o_told_skills a_o_told_places a_o_told_wheel _ o_trace o_told_trades o_told_people o_told_tradesEnded i2 N r_3 hc) (cwV 1 hts gX4_skill_X4_isTrade rfl rfl rfl (by decide +kernel) ⟨Nat.le_of_ble_eq_true rfl, Nat.le_of_ble_eq_true rfl⟩) (gPV (wc := [(a_o, .inr (4, [.ref a_o_text, .ref a_o_tunes, .ref a_o_present, .ref a_o_ahead, .ref a_o_images, .ref a_o_kept, .ref a_o_order, .ref a_o_told, .ref a_o_draft, .long o_trace])), (a_o_told, .inr (1, [.int o_told_trades, .int o_told_people, .ref a_o_told_needs, .ref a_o_told_yields, .ref a_o_told_skips, .ref a_o_told_skills, .ref a_o_told_places, .ref a_o_told_wheel, .int o_told_tradesEnded]))]) hK hN hA hS hP hD [0, 3] rfl rfl (q0 := 0) (ci := 4) rfl rfl rfl) rfl rfl hl.1 rfl (lv_room (Nat.le_of_ble_eq_true rfl)) dX4_skill_10 ⟨Nat.zero_le _, Nat.zero_le _⟩) hP hD hS hA [0, 3] rfl rfl rfl (fun H locs hP hD hS => ?_)
    have hP : va_P (dC, dI) vwCl [(a_o, .inr (4, [.ref a_o_text, .ref a_o_tunes, .ref a_o_present, .ref a_o_ahead, .ref a_o_images, .ref a_o_kept, .ref a_o_order, .ref a_o_told, .ref a_o_draft, .long o_trace])), (a_o_present, .inr (3, [.int o_present_round, .int o_present_fell, .int o_present_ills, .ref a_o_present_skills, .ref a_o_present_places, .ref a_o_present_stores, .ref a_o_present_lacked, .ref a_o_present_helpers, .ref a_o_present_favours, .ref a_o_present_wheel, .ref a_o_present_works])), (a_o_present_skills, .inl (cI, 36, .inl o_present_skills)), (a_o_told, .inr (1, [.int o_told_trades, .int o_told_people, .ref a_o_told_needs, .ref a_o_told_yields, .ref a_o_told_skips, .ref a_o_told_skills, .ref a_o_told_places, .ref a_o_told_wheel, .int o_told_tradesEnded]))] H := hP
    have hD : va_D A [(a_o, .inr (4, [.ref a_o_text, .ref a_o_tunes, .ref a_o_present, .ref a_o_ahead, .ref a_o_images, .ref a_o_kept, .ref a_o_order, .ref a_o_told, .ref a_o_draft, .long o_trace])), (a_o_present, .inr (3, [.int o_present_round, .int o_present_fell, .int o_present_ills, .ref a_o_present_skills, .ref a_o_present_places, .ref a_o_present_stores, .ref a_o_present_lacked, .ref a_o_present_helpers, .ref a_o_present_favours, .ref a_o_present_wheel, .ref a_o_present_works])), (a_o_present_skills, .inl (cI, 36, .inl o_present_skills)), (a_o_told, .inr (1, [.int o_told_trades, .int o_told_people, .ref a_o_told_needs, .ref a_o_told_yields, .ref a_o_told_skips, .ref a_o_told_skills, .ref a_o_told_places, .ref a_o_told_wheel, .int o_told_tradesEnded]))] := hD
    refine lv_if_ne (tgt := 18) hx hb dX4_skill_13 (by decide) (fun c_4 => ?_) (fun c_4 => ?_)
    · have hf := pif hf c_4
      refine lv_aload_n hx hb dX4_skill_18 rfl (lv_at hl 0 rfl) ?_
      refine va_get (D := (dC, dI)) (ci := 4) (v := .ref a_o_present) (C := RX4) (T := TX4) (N := 10) hx hb hts uX4_skill_X4 hown hK hP 0 rfl rfl 2 (by decide) (hts _ mX4_skill_0) (fun _ h9 => h9) rfl dX4_skill_19 ?_
      refine va_get (D := (dC, dI)) (ci := 3) (v := .ref a_o_present_skills) (C := RX3) (T := TX3) (N := 11) hx hb hts uX4_skill_X3 hown hK hP 1 rfl rfl 3 (by decide) (hts _ mX4_skill_1) (fun _ h9 => h9) rfl dX4_skill_22 ?_
      refine lv_iload_n hx hb dX4_skill_25 rfl (lv_at hl 1 rfl) ?_
      refine lv_iload_n hx hb dX4_skill_26 rfl (lv_at hl 2 rfl) ?_
      obtain ⟨r_5, hc, hf⟩ := pb1 hf
      refine gCi (va_runS (As := [.int i1, .int i2]) (rest := [.ref a_o_present_skills]) hF (kX4_cell l dC dI Z cC cI cZ cW  _  i1 i2 N r_5 hc) (cwS 2 hts gX4_skill_X4_cell rfl rfl rfl (by decide +kernel) ⟨Nat.le_of_ble_eq_true rfl, Nat.le_of_ble_eq_true rfl⟩) (gPS (wc := []) hK hN hA hS hP hD [] rfl rfl) rfl rfl hl.1 rfl (lv_room (Nat.le_of_ble_eq_true rfl)) dX4_skill_27 ⟨Nat.zero_le _, Nat.zero_le _⟩) hP hD hS hA [] rfl rfl rfl (fun H locs hP hD hS => ?_)
      have hP : va_P (dC, dI) vwCl [(a_o, .inr (4, [.ref a_o_text, .ref a_o_tunes, .ref a_o_present, .ref a_o_ahead, .ref a_o_images, .ref a_o_kept, .ref a_o_order, .ref a_o_told, .ref a_o_draft, .long o_trace])), (a_o_present, .inr (3, [.int o_present_round, .int o_present_fell, .int o_present_ills, .ref a_o_present_skills, .ref a_o_present_places, .ref a_o_present_stores, .ref a_o_present_lacked, .ref a_o_present_helpers, .ref a_o_present_favours, .ref a_o_present_wheel, .ref a_o_present_works])), (a_o_present_skills, .inl (cI, 36, .inl o_present_skills)), (a_o_told, .inr (1, [.int o_told_trades, .int o_told_people, .ref a_o_told_needs, .ref a_o_told_yields, .ref a_o_told_skips, .ref a_o_told_skills, .ref a_o_told_places, .ref a_o_told_wheel, .int o_told_tradesEnded]))] H := hP
      have hD : va_D A [(a_o, .inr (4, [.ref a_o_text, .ref a_o_tunes, .ref a_o_present, .ref a_o_ahead, .ref a_o_images, .ref a_o_kept, .ref a_o_order, .ref a_o_told, .ref a_o_draft, .long o_trace])), (a_o_present, .inr (3, [.int o_present_round, .int o_present_fell, .int o_present_ills, .ref a_o_present_skills, .ref a_o_present_places, .ref a_o_present_stores, .ref a_o_present_lacked, .ref a_o_present_helpers, .ref a_o_present_favours, .ref a_o_present_wheel, .ref a_o_present_works])), (a_o_present_skills, .inl (cI, 36, .inl o_present_skills)), (a_o_told, .inr (1, [.int o_told_trades, .int o_told_people, .ref a_o_told_needs, .ref a_o_told_yields, .ref a_o_told_skips, .ref a_o_told_skills, .ref a_o_told_places, .ref a_o_told_wheel, .int o_told_tradesEnded]))] := hD
      obtain ⟨h_6, hf⟩ := pgd hf
      refine va_iald hx hb hK hP 2 1 rfl rfl h_6 dX4_skill_30 ?_
      have q0 := Option.some.inj hf
      subst q0
      exact gRi hx hb hr hlocks hP hS dX4_skill_31
    · have hf := pit hf c_4
      refine lv_iconst (v := (-1 : Int32)) hx hb dX4_skill_16 (by decide) ?_
      have q0 := Option.some.inj hf
      subst q0
      exact gRi hx hb hr hlocks hP hS dX4_skill_17
abbrev rmX4_person : Room := { frames := 3, cells := 0, slots := 0, locals := 68 }
set_option maxRecDepth 20000 in
theorem uX4_person_X1 : ∀ w ∈ wsX10, w ∈ wsX4_person := by decide +kernel
set_option maxRecDepth 20000 in
theorem uX4_person_X3 : ∀ w ∈ wsX30, w ∈ wsX4_person := by decide +kernel
set_option maxRecDepth 20000 in
theorem uX4_person_X4 : ∀ w ∈ wsX40, w ∈ wsX4_person := by decide +kernel
set_option maxRecDepth 20000 in
theorem mX4_person_0 : (Cond.fieldLink RX4 26 "TradeWheel" "present" "LTradeWheel$World;" : Cond) ∈ wsX4_person := by decide +kernel
set_option maxRecDepth 20000 in
theorem mX4_person_1 : (Cond.fieldLink RX4 112 "TradeWheel$World" "places" "[I" : Cond) ∈ wsX4_person := by decide +kernel
set_option maxRecDepth 20000 in
theorem mX4_person_2 : (Cond.fieldLink RX4 48 "TradeWheel" "told" "LTradeWheel$Told;" : Cond) ∈ wsX4_person := by decide +kernel
set_option maxRecDepth 20000 in
theorem mX4_person_3 : (Cond.fieldLink RX4 126 "TradeWheel$Told" "skips" "[I" : Cond) ∈ wsX4_person := by decide +kernel
set_option maxHeartbeats 4000000 in
set_option maxRecDepth 100000 in
theorem kX4_person (l : Launch) (dC : Nat → ClassId) (dI : Nat → Nat → Nat) (Z : gZ) (cC cI cZ cW : ClassId) (a_o a_o_text a_o_tunes a_o_present a_o_ahead a_o_images a_o_kept a_o_order a_o_told a_o_draft a_o_present_skills a_o_present_places a_o_present_stores a_o_present_lacked a_o_present_helpers a_o_present_favours a_o_present_wheel a_o_present_works a_o_told_needs a_o_told_yields a_o_told_skips a_o_told_skills a_o_told_places a_o_told_wheel : Nat) (sz : Nat) (o_trace : Int64) (o_present_round : Int32) (o_present_fell : Int32) (o_present_ills : Int32) (o_present_places : Nat → Int32) (o_present_helpers : Nat → Int32) (o_present_wheel : Nat → Int32) (o_told_trades : Int32) (o_told_people : Int32) (o_told_tradesEnded : Int32) (o_told_skips : Nat → Int32) (i1 : Int32) (i2 : Int32) (N : Nat) (r' : Int32) (hf : fX4_person N o_present_ills o_present_places o_present_helpers o_present_wheel o_told_trades o_told_people o_told_skips  i1 i2 = some r') : Met l yX4_person wsX4_person rmX4_person (va_Pc [.ref a_o, .int i1, .int i2] (gB (dC, dI) Z [(cC, .char), (cI, .int), (cZ, .boolean), (cW, .object RX3)] [(a_o, .inr (4, [.ref a_o_text, .ref a_o_tunes, .ref a_o_present, .ref a_o_ahead, .ref a_o_images, .ref a_o_kept, .ref a_o_order, .ref a_o_told, .ref a_o_draft, .long o_trace])), (a_o_present, .inr (3, [.int o_present_round, .int o_present_fell, .int o_present_ills, .ref a_o_present_skills, .ref a_o_present_places, .ref a_o_present_stores, .ref a_o_present_lacked, .ref a_o_present_helpers, .ref a_o_present_favours, .ref a_o_present_wheel, .ref a_o_present_works])), (a_o_present_places, .inl (cI, 6, .inl o_present_places)), (a_o_present_helpers, .inl (cI, 6, .inl o_present_helpers)), (a_o_present_wheel, .inl (cI, 6, .inl o_present_wheel)), (a_o_told, .inr (1, [.int o_told_trades, .int o_told_people, .ref a_o_told_needs, .ref a_o_told_yields, .ref a_o_told_skips, .ref a_o_told_skills, .ref a_o_told_places, .ref a_o_told_wheel, .int o_told_tradesEnded])), (a_o_told_skips, .inl (cI, 6, .inl o_told_skips))] sz)) (va_Qi (fun (r : Int32) (_ : Unit) => r = r') (gE (dC, dI) [(a_o, .inr (4, [.ref a_o_text, .ref a_o_tunes, .ref a_o_present, .ref a_o_ahead, .ref a_o_images, .ref a_o_kept, .ref a_o_order, .ref a_o_told, .ref a_o_draft, .long o_trace])), (a_o_present, .inr (3, [.int o_present_round, .int o_present_fell, .int o_present_ills, .ref a_o_present_skills, .ref a_o_present_places, .ref a_o_present_stores, .ref a_o_present_lacked, .ref a_o_present_helpers, .ref a_o_present_favours, .ref a_o_present_wheel, .ref a_o_present_works])), (a_o_present_places, .inl (cI, 6, .inl o_present_places)), (a_o_present_helpers, .inl (cI, 6, .inl o_present_helpers)), (a_o_present_wheel, .inl (cI, 6, .inl o_present_wheel)), (a_o_told, .inr (1, [.int o_told_trades, .int o_told_people, .ref a_o_told_needs, .ref a_o_told_yields, .ref a_o_told_skips, .ref a_o_told_skills, .ref a_o_told_places, .ref a_o_told_wheel, .int o_told_tradesEnded])), (a_o_told_skips, .inl (cI, 6, .inl o_told_skips))]) (va_A [(a_o, .inr (4, [.ref a_o_text, .ref a_o_tunes, .ref a_o_present, .ref a_o_ahead, .ref a_o_images, .ref a_o_kept, .ref a_o_order, .ref a_o_told, .ref a_o_draft, .long o_trace])), (a_o_present, .inr (3, [.int o_present_round, .int o_present_fell, .int o_present_ills, .ref a_o_present_skills, .ref a_o_present_places, .ref a_o_present_stores, .ref a_o_present_lacked, .ref a_o_present_helpers, .ref a_o_present_favours, .ref a_o_present_wheel, .ref a_o_present_works])), (a_o_present_places, .inl (cI, 6, .inl o_present_places)), (a_o_present_helpers, .inl (cI, 6, .inl o_present_helpers)), (a_o_present_wheel, .inl (cI, 6, .inl o_present_wheel)), (a_o_told, .inr (1, [.int o_told_trades, .int o_told_people, .ref a_o_told_needs, .ref a_o_told_yields, .ref a_o_told_skips, .ref a_o_told_skills, .ref a_o_told_places, .ref a_o_told_wheel, .int o_told_tradesEnded])), (a_o_told_skips, .inl (cI, 6, .inl o_told_skips))] sz)) 0 0 (va_A [(a_o, .inr (4, [.ref a_o_text, .ref a_o_tunes, .ref a_o_present, .ref a_o_ahead, .ref a_o_images, .ref a_o_kept, .ref a_o_order, .ref a_o_told, .ref a_o_draft, .long o_trace])), (a_o_present, .inr (3, [.int o_present_round, .int o_present_fell, .int o_present_ills, .ref a_o_present_skills, .ref a_o_present_places, .ref a_o_present_stores, .ref a_o_present_lacked, .ref a_o_present_helpers, .ref a_o_present_favours, .ref a_o_present_wheel, .ref a_o_present_works])), (a_o_present_places, .inl (cI, 6, .inl o_present_places)), (a_o_present_helpers, .inl (cI, 6, .inl o_present_helpers)), (a_o_present_wheel, .inl (cI, 6, .inl o_present_wheel)), (a_o_told, .inr (1, [.int o_told_trades, .int o_told_people, .ref a_o_told_needs, .ref a_o_told_yields, .ref a_o_told_skips, .ref a_o_told_skills, .ref a_o_told_places, .ref a_o_told_wheel, .int o_told_tradesEnded])), (a_o_told_skips, .inl (cI, 6, .inl o_told_skips))] sz) := by
  refine gMet (cc := cX4_person) (maxL := 3) (ret := (some .int)) (Qc := fun A => va_Qi (fun (r : Int32) (_ : Unit) => r = r') (gE (dC, dI) [(a_o, .inr (4, [.ref a_o_text, .ref a_o_tunes, .ref a_o_present, .ref a_o_ahead, .ref a_o_images, .ref a_o_kept, .ref a_o_order, .ref a_o_told, .ref a_o_draft, .long o_trace])), (a_o_present, .inr (3, [.int o_present_round, .int o_present_fell, .int o_present_ills, .ref a_o_present_skills, .ref a_o_present_places, .ref a_o_present_stores, .ref a_o_present_lacked, .ref a_o_present_helpers, .ref a_o_present_favours, .ref a_o_present_wheel, .ref a_o_present_works])), (a_o_present_places, .inl (cI, 6, .inl o_present_places)), (a_o_present_helpers, .inl (cI, 6, .inl o_present_helpers)), (a_o_present_wheel, .inl (cI, 6, .inl o_present_wheel)), (a_o_told, .inr (1, [.int o_told_trades, .int o_told_people, .ref a_o_told_needs, .ref a_o_told_yields, .ref a_o_told_skips, .ref a_o_told_skills, .ref a_o_told_places, .ref a_o_told_wheel, .int o_told_tradesEnded])), (a_o_told_skips, .inl (cI, 6, .inl o_told_skips))]) A) (by decide) rfl (Nat.le_of_ble_eq_true rfl) ?_
  intro p e s m below meth c A ls hg0 _ hsz hP hD hS hl
  have hg0 : gX p s m _ meth c cX4_person 3 (some .int) wsX4_person RX4 (dC, dI) Z [(cC, .char), (cI, .int), (cZ, .boolean), (cW, .object RX3)] A := hg0
  obtain ⟨hx, hb, hr, hml, hown, hts, hlocks, hA, hK, hN⟩ := id hg0
  subst hsz
  have hF : CallFix p m c cX4_person 3 s _ wsX4_person RX4 := ⟨hx, hb, hml, hown, hts⟩
  have hl : lv_has ls 3 [(0, .ref a_o), (1, .int i1), (2, .int i2)] := hl
  unfold fX4_person at hf
  refine lv_aload_n hx hb dX4_person_0 rfl (lv_at hl 0 rfl) ?_
  refine lv_iload_n hx hb dX4_person_1 rfl (lv_at hl 1 rfl) ?_
  obtain ⟨r_1, hc, hf⟩ := pb1 hf
  refine gCi (va_runV (As := [.int i1]) (rest := []) hF (kX4_isPerson l dC dI Z cC cI cZ cW a_o a_o_text a_o_tunes a_o_present a_o_ahead a_o_images a_o_kept a_o_order a_o_told a_o_draft a_o_told_needs a_o_told_yields a_o_told_skips a_o_told_skills a_o_told_places a_o_told_wheel _ o_trace o_told_trades o_told_people o_told_tradesEnded i1 N r_1 hc) (cwV 1 hts gX4_person_X4_isPerson rfl rfl rfl (by decide +kernel) ⟨Nat.le_of_ble_eq_true rfl, Nat.le_of_ble_eq_true rfl⟩) (gPV (wc := [(a_o, .inr (4, [.ref a_o_text, .ref a_o_tunes, .ref a_o_present, .ref a_o_ahead, .ref a_o_images, .ref a_o_kept, .ref a_o_order, .ref a_o_told, .ref a_o_draft, .long o_trace])), (a_o_told, .inr (1, [.int o_told_trades, .int o_told_people, .ref a_o_told_needs, .ref a_o_told_yields, .ref a_o_told_skips, .ref a_o_told_skills, .ref a_o_told_places, .ref a_o_told_wheel, .int o_told_tradesEnded]))]) hK hN hA hS hP hD [0, 5] rfl rfl (q0 := 0) (ci := 4) rfl rfl rfl) rfl rfl hl.1 rfl (lv_room (Nat.le_of_ble_eq_true rfl)) dX4_person_2 ⟨Nat.zero_le _, Nat.zero_le _⟩) hP hD hS hA [0, 5] rfl rfl rfl (fun H locs hP hD hS => ?_)
  have hP : va_P (dC, dI) vwCl [(a_o, .inr (4, [.ref a_o_text, .ref a_o_tunes, .ref a_o_present, .ref a_o_ahead, .ref a_o_images, .ref a_o_kept, .ref a_o_order, .ref a_o_told, .ref a_o_draft, .long o_trace])), (a_o_present, .inr (3, [.int o_present_round, .int o_present_fell, .int o_present_ills, .ref a_o_present_skills, .ref a_o_present_places, .ref a_o_present_stores, .ref a_o_present_lacked, .ref a_o_present_helpers, .ref a_o_present_favours, .ref a_o_present_wheel, .ref a_o_present_works])), (a_o_present_places, .inl (cI, 6, .inl o_present_places)), (a_o_present_helpers, .inl (cI, 6, .inl o_present_helpers)), (a_o_present_wheel, .inl (cI, 6, .inl o_present_wheel)), (a_o_told, .inr (1, [.int o_told_trades, .int o_told_people, .ref a_o_told_needs, .ref a_o_told_yields, .ref a_o_told_skips, .ref a_o_told_skills, .ref a_o_told_places, .ref a_o_told_wheel, .int o_told_tradesEnded])), (a_o_told_skips, .inl (cI, 6, .inl o_told_skips))] H := hP
  have hD : va_D A [(a_o, .inr (4, [.ref a_o_text, .ref a_o_tunes, .ref a_o_present, .ref a_o_ahead, .ref a_o_images, .ref a_o_kept, .ref a_o_order, .ref a_o_told, .ref a_o_draft, .long o_trace])), (a_o_present, .inr (3, [.int o_present_round, .int o_present_fell, .int o_present_ills, .ref a_o_present_skills, .ref a_o_present_places, .ref a_o_present_stores, .ref a_o_present_lacked, .ref a_o_present_helpers, .ref a_o_present_favours, .ref a_o_present_wheel, .ref a_o_present_works])), (a_o_present_places, .inl (cI, 6, .inl o_present_places)), (a_o_present_helpers, .inl (cI, 6, .inl o_present_helpers)), (a_o_present_wheel, .inl (cI, 6, .inl o_present_wheel)), (a_o_told, .inr (1, [.int o_told_trades, .int o_told_people, .ref a_o_told_needs, .ref a_o_told_yields, .ref a_o_told_skips, .ref a_o_told_skills, .ref a_o_told_places, .ref a_o_told_wheel, .int o_told_tradesEnded])), (a_o_told_skips, .inl (cI, 6, .inl o_told_skips))] := hD
  refine lv_if_ne (tgt := 10) hx hb dX4_person_5 (by decide) (fun c_2 => ?_) (fun c_2 => ?_)
  · have hf := pif hf c_2
    refine lv_iload_n hx hb dX4_person_10 rfl (lv_at hl 2 rfl) ?_
    by_cases c_9 : i2 = (0 : Int32)
    · have hf := pit hf c_9
      refine gTab (off := 33) (tgt := 44) hx hb c_9 dX4_person_11 (by decide) (by decide) (by decide) (by decide) ?_
      refine lv_aload_n hx hb dX4_person_44 rfl (lv_at hl 0 rfl) ?_
      refine va_get (D := (dC, dI)) (ci := 4) (v := .ref a_o_present) (C := RX4) (T := TX4) (N := 10) hx hb hts uX4_person_X4 hown hK hP 0 rfl rfl 2 (by decide) (hts _ mX4_person_0) (fun _ h9 => h9) rfl dX4_person_45 ?_
      refine va_get (D := (dC, dI)) (ci := 3) (v := .ref a_o_present_places) (C := RX3) (T := TX3) (N := 11) hx hb hts uX4_person_X3 hown hK hP 1 rfl rfl 4 (by decide) (hts _ mX4_person_1) (fun _ h9 => h9) rfl dX4_person_48 ?_
      refine lv_iload_n hx hb dX4_person_51 rfl (lv_at hl 1 rfl) ?_
      obtain ⟨h_3, hf⟩ := pgd hf
      refine va_iald hx hb hK hP 2 1 rfl rfl h_3 dX4_person_52 ?_
      have q0 := Option.some.inj hf
      subst q0
      exact gRi hx hb hr hlocks hP hS dX4_person_53
    · have hf := pif hf c_9
      by_cases c_10 : i2 = (1 : Int32)
      · have hf := pit hf c_10
        refine gTab (off := 43) (tgt := 54) hx hb c_10 dX4_person_11 (by decide) (by decide) (by decide) (by decide) ?_
        refine lv_aload_n hx hb dX4_person_54 rfl (lv_at hl 0 rfl) ?_
        refine va_get (D := (dC, dI)) (ci := 4) (v := .ref a_o_present) (C := RX4) (T := TX4) (N := 10) hx hb hts uX4_person_X4 hown hK hP 0 rfl rfl 2 (by decide) (hts _ mX4_person_0) (fun _ h9 => h9) rfl dX4_person_55 ?_
        refine lv_iload_n hx hb dX4_person_58 rfl (lv_at hl 1 rfl) ?_
        refine lv_aload_n hx hb dX4_person_59 rfl (lv_at hl 0 rfl) ?_
        refine va_get (D := (dC, dI)) (ci := 4) (v := .ref a_o_told) (C := RX4) (T := TX4) (N := 10) hx hb hts uX4_person_X4 hown hK hP 0 rfl rfl 7 (by decide) (hts _ mX4_person_2) (fun _ h9 => h9) rfl dX4_person_60 ?_
        obtain ⟨r_4, hc, hf⟩ := pb1 hf
        refine gCi (va_runV (As := [.int i1, .ref a_o_told]) (rest := []) hF (kX3_tradeOf l dC dI Z cC cI cZ cW a_o_present a_o_present_skills a_o_present_places a_o_present_stores a_o_present_lacked a_o_present_helpers a_o_present_favours a_o_present_wheel a_o_present_works a_o_told a_o_told_needs a_o_told_yields a_o_told_skips a_o_told_skills a_o_told_places a_o_told_wheel _ o_present_round o_present_fell o_present_ills o_present_places o_present_wheel o_told_trades o_told_people o_told_tradesEnded o_told_skips i1 N r_4 hc) (cwV 2 hts gX4_person_X3_tradeOf rfl rfl rfl (by decide +kernel) ⟨Nat.le_of_ble_eq_true rfl, Nat.le_of_ble_eq_true rfl⟩) (gPV (wc := [(a_o_present, .inr (3, [.int o_present_round, .int o_present_fell, .int o_present_ills, .ref a_o_present_skills, .ref a_o_present_places, .ref a_o_present_stores, .ref a_o_present_lacked, .ref a_o_present_helpers, .ref a_o_present_favours, .ref a_o_present_wheel, .ref a_o_present_works])), (a_o_present_places, .inl (cI, 6, .inl o_present_places)), (a_o_present_wheel, .inl (cI, 6, .inl o_present_wheel)), (a_o_told, .inr (1, [.int o_told_trades, .int o_told_people, .ref a_o_told_needs, .ref a_o_told_yields, .ref a_o_told_skips, .ref a_o_told_skills, .ref a_o_told_places, .ref a_o_told_wheel, .int o_told_tradesEnded])), (a_o_told_skips, .inl (cI, 6, .inl o_told_skips))]) hK hN hA hS hP hD [1, 2, 4, 5, 6] rfl rfl (q0 := 0) (ci := 3) rfl rfl rfl) rfl rfl hl.1 rfl (lv_room (Nat.le_of_ble_eq_true rfl)) dX4_person_63 ⟨Nat.zero_le _, Nat.zero_le _⟩) hP hD hS hA [1, 2, 4, 5, 6] rfl rfl rfl (fun H locs hP hD hS => ?_)
        have hP : va_P (dC, dI) vwCl [(a_o, .inr (4, [.ref a_o_text, .ref a_o_tunes, .ref a_o_present, .ref a_o_ahead, .ref a_o_images, .ref a_o_kept, .ref a_o_order, .ref a_o_told, .ref a_o_draft, .long o_trace])), (a_o_present, .inr (3, [.int o_present_round, .int o_present_fell, .int o_present_ills, .ref a_o_present_skills, .ref a_o_present_places, .ref a_o_present_stores, .ref a_o_present_lacked, .ref a_o_present_helpers, .ref a_o_present_favours, .ref a_o_present_wheel, .ref a_o_present_works])), (a_o_present_places, .inl (cI, 6, .inl o_present_places)), (a_o_present_helpers, .inl (cI, 6, .inl o_present_helpers)), (a_o_present_wheel, .inl (cI, 6, .inl o_present_wheel)), (a_o_told, .inr (1, [.int o_told_trades, .int o_told_people, .ref a_o_told_needs, .ref a_o_told_yields, .ref a_o_told_skips, .ref a_o_told_skills, .ref a_o_told_places, .ref a_o_told_wheel, .int o_told_tradesEnded])), (a_o_told_skips, .inl (cI, 6, .inl o_told_skips))] H := hP
        have hD : va_D A [(a_o, .inr (4, [.ref a_o_text, .ref a_o_tunes, .ref a_o_present, .ref a_o_ahead, .ref a_o_images, .ref a_o_kept, .ref a_o_order, .ref a_o_told, .ref a_o_draft, .long o_trace])), (a_o_present, .inr (3, [.int o_present_round, .int o_present_fell, .int o_present_ills, .ref a_o_present_skills, .ref a_o_present_places, .ref a_o_present_stores, .ref a_o_present_lacked, .ref a_o_present_helpers, .ref a_o_present_favours, .ref a_o_present_wheel, .ref a_o_present_works])), (a_o_present_places, .inl (cI, 6, .inl o_present_places)), (a_o_present_helpers, .inl (cI, 6, .inl o_present_helpers)), (a_o_present_wheel, .inl (cI, 6, .inl o_present_wheel)), (a_o_told, .inr (1, [.int o_told_trades, .int o_told_people, .ref a_o_told_needs, .ref a_o_told_yields, .ref a_o_told_skips, .ref a_o_told_skills, .ref a_o_told_places, .ref a_o_told_wheel, .int o_told_tradesEnded])), (a_o_told_skips, .inl (cI, 6, .inl o_told_skips))] := hD
        have q0 := Option.some.inj hf
        subst q0
        exact gRi hx hb hr hlocks hP hS dX4_person_66
      · have hf := pif hf c_10
        by_cases c_11 : i2 = (2 : Int32)
        · have hf := pit hf c_11
          refine gTab (off := 56) (tgt := 67) hx hb c_11 dX4_person_11 (by decide) (by decide) (by decide) (by decide) ?_
          refine lv_aload_n hx hb dX4_person_67 rfl (lv_at hl 0 rfl) ?_
          refine va_get (D := (dC, dI)) (ci := 4) (v := .ref a_o_present) (C := RX4) (T := TX4) (N := 10) hx hb hts uX4_person_X4 hown hK hP 0 rfl rfl 2 (by decide) (hts _ mX4_person_0) (fun _ h9 => h9) rfl dX4_person_68 ?_
          refine lv_iload_n hx hb dX4_person_71 rfl (lv_at hl 1 rfl) ?_
          obtain ⟨r_5, hc, hf⟩ := pb1 hf
          refine gCi (va_runV (As := [.int i1]) (rest := []) hF (kX3_isIll l dC dI Z cC cI cZ cW a_o_present a_o_present_skills a_o_present_places a_o_present_stores a_o_present_lacked a_o_present_helpers a_o_present_favours a_o_present_wheel a_o_present_works _ o_present_round o_present_fell o_present_ills i1 N r_5 hc) (cwV 1 hts gX4_person_X3_isIll rfl rfl rfl (by decide +kernel) ⟨Nat.le_of_ble_eq_true rfl, Nat.le_of_ble_eq_true rfl⟩) (gPV (wc := [(a_o_present, .inr (3, [.int o_present_round, .int o_present_fell, .int o_present_ills, .ref a_o_present_skills, .ref a_o_present_places, .ref a_o_present_stores, .ref a_o_present_lacked, .ref a_o_present_helpers, .ref a_o_present_favours, .ref a_o_present_wheel, .ref a_o_present_works]))]) hK hN hA hS hP hD [1] rfl rfl (q0 := 0) (ci := 3) rfl rfl rfl) rfl rfl hl.1 rfl (lv_room (Nat.le_of_ble_eq_true rfl)) dX4_person_72 ⟨Nat.zero_le _, Nat.zero_le _⟩) hP hD hS hA [1] rfl rfl rfl (fun H locs hP hD hS => ?_)
          have hP : va_P (dC, dI) vwCl [(a_o, .inr (4, [.ref a_o_text, .ref a_o_tunes, .ref a_o_present, .ref a_o_ahead, .ref a_o_images, .ref a_o_kept, .ref a_o_order, .ref a_o_told, .ref a_o_draft, .long o_trace])), (a_o_present, .inr (3, [.int o_present_round, .int o_present_fell, .int o_present_ills, .ref a_o_present_skills, .ref a_o_present_places, .ref a_o_present_stores, .ref a_o_present_lacked, .ref a_o_present_helpers, .ref a_o_present_favours, .ref a_o_present_wheel, .ref a_o_present_works])), (a_o_present_places, .inl (cI, 6, .inl o_present_places)), (a_o_present_helpers, .inl (cI, 6, .inl o_present_helpers)), (a_o_present_wheel, .inl (cI, 6, .inl o_present_wheel)), (a_o_told, .inr (1, [.int o_told_trades, .int o_told_people, .ref a_o_told_needs, .ref a_o_told_yields, .ref a_o_told_skips, .ref a_o_told_skills, .ref a_o_told_places, .ref a_o_told_wheel, .int o_told_tradesEnded])), (a_o_told_skips, .inl (cI, 6, .inl o_told_skips))] H := hP
          have hD : va_D A [(a_o, .inr (4, [.ref a_o_text, .ref a_o_tunes, .ref a_o_present, .ref a_o_ahead, .ref a_o_images, .ref a_o_kept, .ref a_o_order, .ref a_o_told, .ref a_o_draft, .long o_trace])), (a_o_present, .inr (3, [.int o_present_round, .int o_present_fell, .int o_present_ills, .ref a_o_present_skills, .ref a_o_present_places, .ref a_o_present_stores, .ref a_o_present_lacked, .ref a_o_present_helpers, .ref a_o_present_favours, .ref a_o_present_wheel, .ref a_o_present_works])), (a_o_present_places, .inl (cI, 6, .inl o_present_places)), (a_o_present_helpers, .inl (cI, 6, .inl o_present_helpers)), (a_o_present_wheel, .inl (cI, 6, .inl o_present_wheel)), (a_o_told, .inr (1, [.int o_told_trades, .int o_told_people, .ref a_o_told_needs, .ref a_o_told_yields, .ref a_o_told_skips, .ref a_o_told_skills, .ref a_o_told_places, .ref a_o_told_wheel, .int o_told_tradesEnded])), (a_o_told_skips, .inl (cI, 6, .inl o_told_skips))] := hD
          refine lv_if_eq (tgt := 82) hx hb dX4_person_75 (by decide) (fun c_6 => ?_) (fun c_6 => ?_)
          · have hf := pit hf c_6
            refine lv_iconst (v := (0 : Int32)) hx hb dX4_person_82 (by decide) ?_
            have q0 := Option.some.inj hf
            subst q0
            exact gRi hx hb hr hlocks hP hS dX4_person_83
          · have hf := pif hf c_6
            refine lv_iconst (v := (1 : Int32)) hx hb dX4_person_78 (by decide) ?_
            refine lv_goto (tgt := 83) hx hb dX4_person_79 (by decide) ?_
            have q0 := Option.some.inj hf
            subst q0
            exact gRi hx hb hr hlocks hP hS dX4_person_83
        · have hf := pif hf c_11
          by_cases c_12 : i2 = (3 : Int32)
          · have hf := pit hf c_12
            refine gTab (off := 73) (tgt := 84) hx hb c_12 dX4_person_11 (by decide) (by decide) (by decide) (by decide) ?_
            refine lv_aload_n hx hb dX4_person_84 rfl (lv_at hl 0 rfl) ?_
            refine va_get (D := (dC, dI)) (ci := 4) (v := .ref a_o_present) (C := RX4) (T := TX4) (N := 10) hx hb hts uX4_person_X4 hown hK hP 0 rfl rfl 2 (by decide) (hts _ mX4_person_0) (fun _ h9 => h9) rfl dX4_person_85 ?_
            refine lv_iload_n hx hb dX4_person_88 rfl (lv_at hl 1 rfl) ?_
            obtain ⟨r_7, hc, hf⟩ := pb1 hf
            refine gCi (va_runV (As := [.int i1]) (rest := []) hF (kX3_whomHelps l dC dI Z cC cI cZ cW a_o_present a_o_present_skills a_o_present_places a_o_present_stores a_o_present_lacked a_o_present_helpers a_o_present_favours a_o_present_wheel a_o_present_works _ o_present_round o_present_fell o_present_ills o_present_helpers i1 N r_7 hc) (cwV 1 hts gX4_person_X3_whomHelps rfl rfl rfl (by decide +kernel) ⟨Nat.le_of_ble_eq_true rfl, Nat.le_of_ble_eq_true rfl⟩) (gPV (wc := [(a_o_present, .inr (3, [.int o_present_round, .int o_present_fell, .int o_present_ills, .ref a_o_present_skills, .ref a_o_present_places, .ref a_o_present_stores, .ref a_o_present_lacked, .ref a_o_present_helpers, .ref a_o_present_favours, .ref a_o_present_wheel, .ref a_o_present_works])), (a_o_present_helpers, .inl (cI, 6, .inl o_present_helpers))]) hK hN hA hS hP hD [1, 3] rfl rfl (q0 := 0) (ci := 3) rfl rfl rfl) rfl rfl hl.1 rfl (lv_room (Nat.le_of_ble_eq_true rfl)) dX4_person_89 ⟨Nat.zero_le _, Nat.zero_le _⟩) hP hD hS hA [1, 3] rfl rfl rfl (fun H locs hP hD hS => ?_)
            have hP : va_P (dC, dI) vwCl [(a_o, .inr (4, [.ref a_o_text, .ref a_o_tunes, .ref a_o_present, .ref a_o_ahead, .ref a_o_images, .ref a_o_kept, .ref a_o_order, .ref a_o_told, .ref a_o_draft, .long o_trace])), (a_o_present, .inr (3, [.int o_present_round, .int o_present_fell, .int o_present_ills, .ref a_o_present_skills, .ref a_o_present_places, .ref a_o_present_stores, .ref a_o_present_lacked, .ref a_o_present_helpers, .ref a_o_present_favours, .ref a_o_present_wheel, .ref a_o_present_works])), (a_o_present_places, .inl (cI, 6, .inl o_present_places)), (a_o_present_helpers, .inl (cI, 6, .inl o_present_helpers)), (a_o_present_wheel, .inl (cI, 6, .inl o_present_wheel)), (a_o_told, .inr (1, [.int o_told_trades, .int o_told_people, .ref a_o_told_needs, .ref a_o_told_yields, .ref a_o_told_skips, .ref a_o_told_skills, .ref a_o_told_places, .ref a_o_told_wheel, .int o_told_tradesEnded])), (a_o_told_skips, .inl (cI, 6, .inl o_told_skips))] H := hP
            have hD : va_D A [(a_o, .inr (4, [.ref a_o_text, .ref a_o_tunes, .ref a_o_present, .ref a_o_ahead, .ref a_o_images, .ref a_o_kept, .ref a_o_order, .ref a_o_told, .ref a_o_draft, .long o_trace])), (a_o_present, .inr (3, [.int o_present_round, .int o_present_fell, .int o_present_ills, .ref a_o_present_skills, .ref a_o_present_places, .ref a_o_present_stores, .ref a_o_present_lacked, .ref a_o_present_helpers, .ref a_o_present_favours, .ref a_o_present_wheel, .ref a_o_present_works])), (a_o_present_places, .inl (cI, 6, .inl o_present_places)), (a_o_present_helpers, .inl (cI, 6, .inl o_present_helpers)), (a_o_present_wheel, .inl (cI, 6, .inl o_present_wheel)), (a_o_told, .inr (1, [.int o_told_trades, .int o_told_people, .ref a_o_told_needs, .ref a_o_told_yields, .ref a_o_told_skips, .ref a_o_told_skills, .ref a_o_told_places, .ref a_o_told_wheel, .int o_told_tradesEnded])), (a_o_told_skips, .inl (cI, 6, .inl o_told_skips))] := hD
            have q0 := Option.some.inj hf
            subst q0
            exact gRi hx hb hr hlocks hP hS dX4_person_92
          · have hf := pif hf c_12
            by_cases c_13 : i2 = (4 : Int32)
            · have hf := pit hf c_13
              refine gTab (off := 82) (tgt := 93) hx hb c_13 dX4_person_11 (by decide) (by decide) (by decide) (by decide) ?_
              refine lv_aload_n hx hb dX4_person_93 rfl (lv_at hl 0 rfl) ?_
              refine va_get (D := (dC, dI)) (ci := 4) (v := .ref a_o_told) (C := RX4) (T := TX4) (N := 10) hx hb hts uX4_person_X4 hown hK hP 0 rfl rfl 7 (by decide) (hts _ mX4_person_2) (fun _ h9 => h9) rfl dX4_person_94 ?_
              refine va_get (D := (dC, dI)) (ci := 1) (v := .ref a_o_told_skips) (C := RX1) (T := TX1) (N := 9) hx hb hts uX4_person_X1 hown hK hP 5 rfl rfl 4 (by decide) (hts _ mX4_person_3) (fun _ h9 => h9) rfl dX4_person_97 ?_
              refine lv_iload_n hx hb dX4_person_100 rfl (lv_at hl 1 rfl) ?_
              obtain ⟨h_8, hf⟩ := pgd hf
              refine va_iald hx hb hK hP 6 1 rfl rfl h_8 dX4_person_101 ?_
              have q0 := Option.some.inj hf
              subst q0
              exact gRi hx hb hr hlocks hP hS dX4_person_102
            · have hf := pif hf c_13
              have c_9 := ti_ne (k := 0) c_9 (by decide)
              have c_10 := ti_ne (k := 1) c_10 (by decide)
              have c_11 := ti_ne (k := 2) c_11 (by decide)
              have c_12 := ti_ne (k := 3) c_12 (by decide)
              have c_13 := ti_ne (k := 4) c_13 (by decide)
              refine lv_tableOut (tgt := 103) hx hb dX4_person_11 (by omega) (by decide) ?_
              refine lv_iconst (v := (-1 : Int32)) hx hb dX4_person_103 (by decide) ?_
              have q0 := Option.some.inj hf
              subst q0
              exact gRi hx hb hr hlocks hP hS dX4_person_104
  · have hf := pit hf c_2
    refine lv_iconst (v := (-1 : Int32)) hx hb dX4_person_8 (by decide) ?_
    have q0 := Option.some.inj hf
    subst q0
    exact gRi hx hb hr hlocks hP hS dX4_person_9
abbrev rmX4_wheel : Room := { frames := 2, cells := 0, slots := 0, locals := 43 }
set_option maxRecDepth 20000 in
theorem uX4_wheel_X3 : ∀ w ∈ wsX30, w ∈ wsX4_wheel := by decide +kernel
set_option maxRecDepth 20000 in
theorem uX4_wheel_X4 : ∀ w ∈ wsX40, w ∈ wsX4_wheel := by decide +kernel
set_option maxRecDepth 20000 in
theorem mX4_wheel_0 : (Cond.fieldLink RX4 26 "TradeWheel" "present" "LTradeWheel$World;" : Cond) ∈ wsX4_wheel := by decide +kernel
set_option maxRecDepth 20000 in
theorem mX4_wheel_1 : (Cond.fieldLink RX4 129 "TradeWheel$World" "wheel" "[I" : Cond) ∈ wsX4_wheel := by decide +kernel
set_option maxHeartbeats 4000000 in
set_option maxRecDepth 100000 in
theorem kX4_wheel (l : Launch) (dC : Nat → ClassId) (dI : Nat → Nat → Nat) (Z : gZ) (cC cI cZ cW : ClassId) (a_o a_o_text a_o_tunes a_o_present a_o_ahead a_o_images a_o_kept a_o_order a_o_told a_o_draft a_o_present_skills a_o_present_places a_o_present_stores a_o_present_lacked a_o_present_helpers a_o_present_favours a_o_present_wheel a_o_present_works a_o_told_needs a_o_told_yields a_o_told_skips a_o_told_skills a_o_told_places a_o_told_wheel : Nat) (sz : Nat) (o_trace : Int64) (o_present_round : Int32) (o_present_fell : Int32) (o_present_ills : Int32) (o_present_wheel : Nat → Int32) (o_told_trades : Int32) (o_told_people : Int32) (o_told_tradesEnded : Int32) (i1 : Int32) (N : Nat) (r' : Int32) (hf : fX4_wheel N o_present_wheel o_told_trades  i1 = some r') : Met l yX4_wheel wsX4_wheel rmX4_wheel (va_Pc [.ref a_o, .int i1] (gB (dC, dI) Z [(cC, .char), (cI, .int), (cZ, .boolean), (cW, .object RX3)] [(a_o, .inr (4, [.ref a_o_text, .ref a_o_tunes, .ref a_o_present, .ref a_o_ahead, .ref a_o_images, .ref a_o_kept, .ref a_o_order, .ref a_o_told, .ref a_o_draft, .long o_trace])), (a_o_present, .inr (3, [.int o_present_round, .int o_present_fell, .int o_present_ills, .ref a_o_present_skills, .ref a_o_present_places, .ref a_o_present_stores, .ref a_o_present_lacked, .ref a_o_present_helpers, .ref a_o_present_favours, .ref a_o_present_wheel, .ref a_o_present_works])), (a_o_present_wheel, .inl (cI, 6, .inl o_present_wheel)), (a_o_told, .inr (1, [.int o_told_trades, .int o_told_people, .ref a_o_told_needs, .ref a_o_told_yields, .ref a_o_told_skips, .ref a_o_told_skills, .ref a_o_told_places, .ref a_o_told_wheel, .int o_told_tradesEnded]))] sz)) (va_Qi (fun (r : Int32) (_ : Unit) => r = r') (gE (dC, dI) [(a_o, .inr (4, [.ref a_o_text, .ref a_o_tunes, .ref a_o_present, .ref a_o_ahead, .ref a_o_images, .ref a_o_kept, .ref a_o_order, .ref a_o_told, .ref a_o_draft, .long o_trace])), (a_o_present, .inr (3, [.int o_present_round, .int o_present_fell, .int o_present_ills, .ref a_o_present_skills, .ref a_o_present_places, .ref a_o_present_stores, .ref a_o_present_lacked, .ref a_o_present_helpers, .ref a_o_present_favours, .ref a_o_present_wheel, .ref a_o_present_works])), (a_o_present_wheel, .inl (cI, 6, .inl o_present_wheel)), (a_o_told, .inr (1, [.int o_told_trades, .int o_told_people, .ref a_o_told_needs, .ref a_o_told_yields, .ref a_o_told_skips, .ref a_o_told_skills, .ref a_o_told_places, .ref a_o_told_wheel, .int o_told_tradesEnded]))]) (va_A [(a_o, .inr (4, [.ref a_o_text, .ref a_o_tunes, .ref a_o_present, .ref a_o_ahead, .ref a_o_images, .ref a_o_kept, .ref a_o_order, .ref a_o_told, .ref a_o_draft, .long o_trace])), (a_o_present, .inr (3, [.int o_present_round, .int o_present_fell, .int o_present_ills, .ref a_o_present_skills, .ref a_o_present_places, .ref a_o_present_stores, .ref a_o_present_lacked, .ref a_o_present_helpers, .ref a_o_present_favours, .ref a_o_present_wheel, .ref a_o_present_works])), (a_o_present_wheel, .inl (cI, 6, .inl o_present_wheel)), (a_o_told, .inr (1, [.int o_told_trades, .int o_told_people, .ref a_o_told_needs, .ref a_o_told_yields, .ref a_o_told_skips, .ref a_o_told_skills, .ref a_o_told_places, .ref a_o_told_wheel, .int o_told_tradesEnded]))] sz)) 0 0 (va_A [(a_o, .inr (4, [.ref a_o_text, .ref a_o_tunes, .ref a_o_present, .ref a_o_ahead, .ref a_o_images, .ref a_o_kept, .ref a_o_order, .ref a_o_told, .ref a_o_draft, .long o_trace])), (a_o_present, .inr (3, [.int o_present_round, .int o_present_fell, .int o_present_ills, .ref a_o_present_skills, .ref a_o_present_places, .ref a_o_present_stores, .ref a_o_present_lacked, .ref a_o_present_helpers, .ref a_o_present_favours, .ref a_o_present_wheel, .ref a_o_present_works])), (a_o_present_wheel, .inl (cI, 6, .inl o_present_wheel)), (a_o_told, .inr (1, [.int o_told_trades, .int o_told_people, .ref a_o_told_needs, .ref a_o_told_yields, .ref a_o_told_skips, .ref a_o_told_skills, .ref a_o_told_places, .ref a_o_told_wheel, .int o_told_tradesEnded]))] sz) := by
  refine gMet (cc := cX4_wheel) (maxL := 2) (ret := (some .int)) (Qc := fun A => va_Qi (fun (r : Int32) (_ : Unit) => r = r') (gE (dC, dI) [(a_o, .inr (4, [.ref a_o_text, .ref a_o_tunes, .ref a_o_present, .ref a_o_ahead, .ref a_o_images, .ref a_o_kept, .ref a_o_order, .ref a_o_told, .ref a_o_draft, .long o_trace])), (a_o_present, .inr (3, [.int o_present_round, .int o_present_fell, .int o_present_ills, .ref a_o_present_skills, .ref a_o_present_places, .ref a_o_present_stores, .ref a_o_present_lacked, .ref a_o_present_helpers, .ref a_o_present_favours, .ref a_o_present_wheel, .ref a_o_present_works])), (a_o_present_wheel, .inl (cI, 6, .inl o_present_wheel)), (a_o_told, .inr (1, [.int o_told_trades, .int o_told_people, .ref a_o_told_needs, .ref a_o_told_yields, .ref a_o_told_skips, .ref a_o_told_skills, .ref a_o_told_places, .ref a_o_told_wheel, .int o_told_tradesEnded]))]) A) (by decide) rfl (Nat.le_of_ble_eq_true rfl) ?_
  intro p e s m below meth c A ls hg0 _ hsz hP hD hS hl
  have hg0 : gX p s m _ meth c cX4_wheel 2 (some .int) wsX4_wheel RX4 (dC, dI) Z [(cC, .char), (cI, .int), (cZ, .boolean), (cW, .object RX3)] A := hg0
  obtain ⟨hx, hb, hr, hml, hown, hts, hlocks, hA, hK, hN⟩ := id hg0
  subst hsz
  have hF : CallFix p m c cX4_wheel 2 s _ wsX4_wheel RX4 := ⟨hx, hb, hml, hown, hts⟩
  have hl : lv_has ls 2 [(0, .ref a_o), (1, .int i1)] := hl
  unfold fX4_wheel at hf
  refine lv_aload_n hx hb dX4_wheel_0 rfl (lv_at hl 0 rfl) ?_
  refine lv_iload_n hx hb dX4_wheel_1 rfl (lv_at hl 1 rfl) ?_
  obtain ⟨r_1, hc, hf⟩ := pb1 hf
  refine gCi (va_runV (As := [.int i1]) (rest := []) hF (kX4_isTrade l dC dI Z cC cI cZ cW a_o a_o_text a_o_tunes a_o_present a_o_ahead a_o_images a_o_kept a_o_order a_o_told a_o_draft a_o_told_needs a_o_told_yields a_o_told_skips a_o_told_skills a_o_told_places a_o_told_wheel _ o_trace o_told_trades o_told_people o_told_tradesEnded i1 N r_1 hc) (cwV 1 hts gX4_wheel_X4_isTrade rfl rfl rfl (by decide +kernel) ⟨Nat.le_of_ble_eq_true rfl, Nat.le_of_ble_eq_true rfl⟩) (gPV (wc := [(a_o, .inr (4, [.ref a_o_text, .ref a_o_tunes, .ref a_o_present, .ref a_o_ahead, .ref a_o_images, .ref a_o_kept, .ref a_o_order, .ref a_o_told, .ref a_o_draft, .long o_trace])), (a_o_told, .inr (1, [.int o_told_trades, .int o_told_people, .ref a_o_told_needs, .ref a_o_told_yields, .ref a_o_told_skips, .ref a_o_told_skills, .ref a_o_told_places, .ref a_o_told_wheel, .int o_told_tradesEnded]))]) hK hN hA hS hP hD [0, 3] rfl rfl (q0 := 0) (ci := 4) rfl rfl rfl) rfl rfl hl.1 rfl (lv_room (Nat.le_of_ble_eq_true rfl)) dX4_wheel_2 ⟨Nat.zero_le _, Nat.zero_le _⟩) hP hD hS hA [0, 3] rfl rfl rfl (fun H locs hP hD hS => ?_)
  have hP : va_P (dC, dI) vwCl [(a_o, .inr (4, [.ref a_o_text, .ref a_o_tunes, .ref a_o_present, .ref a_o_ahead, .ref a_o_images, .ref a_o_kept, .ref a_o_order, .ref a_o_told, .ref a_o_draft, .long o_trace])), (a_o_present, .inr (3, [.int o_present_round, .int o_present_fell, .int o_present_ills, .ref a_o_present_skills, .ref a_o_present_places, .ref a_o_present_stores, .ref a_o_present_lacked, .ref a_o_present_helpers, .ref a_o_present_favours, .ref a_o_present_wheel, .ref a_o_present_works])), (a_o_present_wheel, .inl (cI, 6, .inl o_present_wheel)), (a_o_told, .inr (1, [.int o_told_trades, .int o_told_people, .ref a_o_told_needs, .ref a_o_told_yields, .ref a_o_told_skips, .ref a_o_told_skills, .ref a_o_told_places, .ref a_o_told_wheel, .int o_told_tradesEnded]))] H := hP
  have hD : va_D A [(a_o, .inr (4, [.ref a_o_text, .ref a_o_tunes, .ref a_o_present, .ref a_o_ahead, .ref a_o_images, .ref a_o_kept, .ref a_o_order, .ref a_o_told, .ref a_o_draft, .long o_trace])), (a_o_present, .inr (3, [.int o_present_round, .int o_present_fell, .int o_present_ills, .ref a_o_present_skills, .ref a_o_present_places, .ref a_o_present_stores, .ref a_o_present_lacked, .ref a_o_present_helpers, .ref a_o_present_favours, .ref a_o_present_wheel, .ref a_o_present_works])), (a_o_present_wheel, .inl (cI, 6, .inl o_present_wheel)), (a_o_told, .inr (1, [.int o_told_trades, .int o_told_people, .ref a_o_told_needs, .ref a_o_told_yields, .ref a_o_told_skips, .ref a_o_told_skills, .ref a_o_told_places, .ref a_o_told_wheel, .int o_told_tradesEnded]))] := hD
  refine lv_if_eq (tgt := 20) hx hb dX4_wheel_5 (by decide) (fun c_2 => ?_) (fun c_2 => ?_)
  · have hf := pit hf c_2
    refine lv_iconst (v := (-1 : Int32)) hx hb dX4_wheel_20 (by decide) ?_
    have q0 := Option.some.inj hf
    subst q0
    exact gRi hx hb hr hlocks hP hS dX4_wheel_21
  · have hf := pif hf c_2
    refine lv_aload_n hx hb dX4_wheel_8 rfl (lv_at hl 0 rfl) ?_
    refine va_get (D := (dC, dI)) (ci := 4) (v := .ref a_o_present) (C := RX4) (T := TX4) (N := 10) hx hb hts uX4_wheel_X4 hown hK hP 0 rfl rfl 2 (by decide) (hts _ mX4_wheel_0) (fun _ h9 => h9) rfl dX4_wheel_9 ?_
    refine va_get (D := (dC, dI)) (ci := 3) (v := .ref a_o_present_wheel) (C := RX3) (T := TX3) (N := 11) hx hb hts uX4_wheel_X3 hown hK hP 1 rfl rfl 9 (by decide) (hts _ mX4_wheel_1) (fun _ h9 => h9) rfl dX4_wheel_12 ?_
    refine lv_iload_n hx hb dX4_wheel_15 rfl (lv_at hl 1 rfl) ?_
    obtain ⟨h_3, hf⟩ := pgd hf
    refine va_iald hx hb hK hP 2 1 rfl rfl h_3 dX4_wheel_16 ?_
    refine lv_goto (tgt := 21) hx hb dX4_wheel_17 (by decide) ?_
    have q0 := Option.some.inj hf
    subst q0
    exact gRi hx hb hr hlocks hP hS dX4_wheel_21
abbrev rmX4_tune : Room := { frames := 1, cells := 0, slots := 0, locals := 22 }
set_option maxRecDepth 20000 in
theorem uX4_tune_X2 : ∀ w ∈ wsX20, w ∈ wsX4_tune := by decide +kernel
set_option maxRecDepth 20000 in
theorem uX4_tune_X4 : ∀ w ∈ wsX40, w ∈ wsX4_tune := by decide +kernel
set_option maxRecDepth 20000 in
theorem mX4_tune_0 : (Cond.fieldLink RX4 19 "TradeWheel" "tunes" "LTradeWheel$Tunes;" : Cond) ∈ wsX4_tune := by decide +kernel
set_option maxRecDepth 20000 in
theorem mX4_tune_1 : (Cond.fieldLink RX4 132 "TradeWheel$Tunes" "fade" "I" : Cond) ∈ wsX4_tune := by decide +kernel
set_option maxRecDepth 20000 in
theorem mX4_tune_2 : (Cond.fieldLink RX4 135 "TradeWheel$Tunes" "winter" "I" : Cond) ∈ wsX4_tune := by decide +kernel
set_option maxRecDepth 20000 in
theorem mX4_tune_3 : (Cond.fieldLink RX4 138 "TradeWheel$Tunes" "fall" "I" : Cond) ∈ wsX4_tune := by decide +kernel
set_option maxHeartbeats 4000000 in
set_option maxRecDepth 100000 in
theorem kX4_tune (l : Launch) (dC : Nat → ClassId) (dI : Nat → Nat → Nat) (Z : gZ) (cC cI cZ cW : ClassId) (a_o a_o_text a_o_tunes a_o_present a_o_ahead a_o_images a_o_kept a_o_order a_o_told a_o_draft : Nat) (sz : Nat) (o_trace : Int64) (o_tunes_fade : Int32) (o_tunes_winter : Int32) (o_tunes_fall : Int32) (i1 : Int32) (i2 : Int32) (N : Nat) (r' : Int32) (o_tunes_fade' : Int32) (o_tunes_winter' : Int32) (o_tunes_fall' : Int32) (hf : fX4_tune N o_tunes_fade o_tunes_winter o_tunes_fall  i1 i2 = some (r', o_tunes_fade', o_tunes_winter', o_tunes_fall')) : Met l yX4_tune wsX4_tune rmX4_tune (va_Pc [.ref a_o, .int i1, .int i2] (gB (dC, dI) Z [(cC, .char), (cI, .int), (cZ, .boolean), (cW, .object RX3)] [(a_o, .inr (4, [.ref a_o_text, .ref a_o_tunes, .ref a_o_present, .ref a_o_ahead, .ref a_o_images, .ref a_o_kept, .ref a_o_order, .ref a_o_told, .ref a_o_draft, .long o_trace])), (a_o_tunes, .inr (2, [.int o_tunes_fade, .int o_tunes_winter, .int o_tunes_fall]))] sz)) (va_Qi (fun (r : Int32) (_ : Unit) => r = r') (gE (dC, dI) [(a_o, .inr (4, [.ref a_o_text, .ref a_o_tunes, .ref a_o_present, .ref a_o_ahead, .ref a_o_images, .ref a_o_kept, .ref a_o_order, .ref a_o_told, .ref a_o_draft, .long o_trace])), (a_o_tunes, .inr (2, [.int o_tunes_fade', .int o_tunes_winter', .int o_tunes_fall']))]) (va_A [(a_o, .inr (4, [.ref a_o_text, .ref a_o_tunes, .ref a_o_present, .ref a_o_ahead, .ref a_o_images, .ref a_o_kept, .ref a_o_order, .ref a_o_told, .ref a_o_draft, .long o_trace])), (a_o_tunes, .inr (2, [.int o_tunes_fade, .int o_tunes_winter, .int o_tunes_fall]))] sz)) 0 0 (va_A [(a_o, .inr (4, [.ref a_o_text, .ref a_o_tunes, .ref a_o_present, .ref a_o_ahead, .ref a_o_images, .ref a_o_kept, .ref a_o_order, .ref a_o_told, .ref a_o_draft, .long o_trace])), (a_o_tunes, .inr (2, [.int o_tunes_fade, .int o_tunes_winter, .int o_tunes_fall]))] sz) := by
  refine gMet (cc := cX4_tune) (maxL := 4) (ret := (some .int)) (Qc := fun A => va_Qi (fun (r : Int32) (_ : Unit) => r = r') (gE (dC, dI) [(a_o, .inr (4, [.ref a_o_text, .ref a_o_tunes, .ref a_o_present, .ref a_o_ahead, .ref a_o_images, .ref a_o_kept, .ref a_o_order, .ref a_o_told, .ref a_o_draft, .long o_trace])), (a_o_tunes, .inr (2, [.int o_tunes_fade', .int o_tunes_winter', .int o_tunes_fall']))]) A) (by decide) rfl (Nat.le_of_ble_eq_true rfl) ?_
  intro p e s m below meth c A ls hg0 _ hsz hP hD hS hl
  have hg0 : gX p s m _ meth c cX4_tune 4 (some .int) wsX4_tune RX4 (dC, dI) Z [(cC, .char), (cI, .int), (cZ, .boolean), (cW, .object RX3)] A := hg0
  obtain ⟨hx, hb, hr, hml, hown, hts, hlocks, hA, hK, hN⟩ := id hg0
  subst hsz
  have hF : CallFix p m c cX4_tune 4 s _ wsX4_tune RX4 := ⟨hx, hb, hml, hown, hts⟩
  have hl : lv_has ls 4 [(0, .ref a_o), (1, .int i1), (2, .int i2)] := hl
  unfold fX4_tune at hf
  refine lv_iload_n hx hb dX4_tune_0 rfl (lv_at hl 1 rfl) ?_
  by_cases c_7 : i1 = (0 : Int32)
  · have hf := pit hf c_7
    refine gTab (off := 27) (tgt := 28) hx hb c_7 dX4_tune_1 (by decide) (by decide) (by decide) (by decide) ?_
    refine lv_iload_n hx hb dX4_tune_28 rfl (lv_at hl 2 rfl) ?_
    refine lv_iconst (v := (0 : Int32)) hx hb dX4_tune_29 (by decide) ?_
    refine lv_bipush (v := (9 : Int32)) hx hb dX4_tune_30 (by decide) ?_
    obtain ⟨r_1, hc, hf⟩ := pb1 hf
    refine gCi (va_runS (As := [.int i2, .int (0 : Int32), .int (9 : Int32)]) (rest := []) hF (kX4_within l dC dI Z cC cI cZ cW  _  i2 (0 : Int32) (9 : Int32) N r_1 hc) (cwS 3 hts gX4_tune_X4_within rfl rfl rfl (by decide +kernel) ⟨Nat.le_of_ble_eq_true rfl, Nat.le_of_ble_eq_true rfl⟩) (gPS (wc := []) hK hN hA hS hP hD [] rfl rfl) rfl rfl hl.1 rfl (lv_room (Nat.le_of_ble_eq_true rfl)) dX4_tune_32 ⟨Nat.zero_le _, Nat.zero_le _⟩) hP hD hS hA [] rfl rfl rfl (fun H locs hP hD hS => ?_)
    have hP : va_P (dC, dI) vwCl [(a_o, .inr (4, [.ref a_o_text, .ref a_o_tunes, .ref a_o_present, .ref a_o_ahead, .ref a_o_images, .ref a_o_kept, .ref a_o_order, .ref a_o_told, .ref a_o_draft, .long o_trace])), (a_o_tunes, .inr (2, [.int o_tunes_fade, .int o_tunes_winter, .int o_tunes_fall]))] H := hP
    have hD : va_D A [(a_o, .inr (4, [.ref a_o_text, .ref a_o_tunes, .ref a_o_present, .ref a_o_ahead, .ref a_o_images, .ref a_o_kept, .ref a_o_order, .ref a_o_told, .ref a_o_draft, .long o_trace])), (a_o_tunes, .inr (2, [.int o_tunes_fade, .int o_tunes_winter, .int o_tunes_fall]))] := hD
    refine lv_if_ne (tgt := 40) hx hb dX4_tune_35 (by decide) (fun c_2 => ?_) (fun c_2 => ?_)
    · have hf := pif hf c_2
      refine lv_aload_n hx hb dX4_tune_40 rfl (lv_at hl 0 rfl) ?_
      refine va_get (D := (dC, dI)) (ci := 4) (v := .ref a_o_tunes) (C := RX4) (T := TX4) (N := 10) hx hb hts uX4_tune_X4 hown hK hP 0 rfl rfl 1 (by decide) (hts _ mX4_tune_0) (fun _ h9 => h9) rfl dX4_tune_41 ?_
      refine va_get (D := (dC, dI)) (ci := 2) (v := .int o_tunes_fade) (C := RX2) (T := TX2) (N := 3) hx hb hts uX4_tune_X2 hown hK hP 1 rfl rfl 0 (by decide) (hts _ mX4_tune_1) (fun _ h9 => h9) rfl dX4_tune_44 ?_
      refine lv_istore_n (lv' := [(3, .int o_tunes_fade), (0, .ref a_o), (1, .int i1), (2, .int i2)]) hx hb dX4_tune_47 rfl hl (by decide) rfl (fun ls hl => ?_)
      refine lv_aload_n hx hb dX4_tune_48 rfl (lv_at hl 1 rfl) ?_
      refine va_get (D := (dC, dI)) (ci := 4) (v := .ref a_o_tunes) (C := RX4) (T := TX4) (N := 10) hx hb hts uX4_tune_X4 hown hK hP 0 rfl rfl 1 (by decide) (hts _ mX4_tune_0) (fun _ h9 => h9) rfl dX4_tune_49 ?_
      refine lv_iload_n hx hb dX4_tune_52 rfl (lv_at hl 3 rfl) ?_
      refine va_put (D := (dC, dI)) (ci := 2) (v := .int i2) (ty := .int) (C := RX2) (T := TX2) (N := 3) hx hb hts uX4_tune_X2 tyX2 tyX2_ok nmX2 hown hK hP hD hS 1 rfl rfl 0 (by decide) (hts _ mX4_tune_1) (fun _ h9 => h9) rfl (by decide +kernel) rfl rfl (Nat.le_of_ble_eq_true rfl) dX4_tune_53 (fun H locs hP hD hS => ?_)
      have hP : va_P (dC, dI) vwCl [(a_o, .inr (4, [.ref a_o_text, .ref a_o_tunes, .ref a_o_present, .ref a_o_ahead, .ref a_o_images, .ref a_o_kept, .ref a_o_order, .ref a_o_told, .ref a_o_draft, .long o_trace])), (a_o_tunes, .inr (2, [.int i2, .int o_tunes_winter, .int o_tunes_fall]))] H := hP
      have hD : va_D A [(a_o, .inr (4, [.ref a_o_text, .ref a_o_tunes, .ref a_o_present, .ref a_o_ahead, .ref a_o_images, .ref a_o_kept, .ref a_o_order, .ref a_o_told, .ref a_o_draft, .long o_trace])), (a_o_tunes, .inr (2, [.int i2, .int o_tunes_winter, .int o_tunes_fall]))] := hD
      refine lv_iload_n hx hb dX4_tune_56 rfl (lv_at hl 0 rfl) ?_
      have q0 := Option.some.inj hf
      obtain ⟨e0, q1⟩ := Prod.mk.inj q0
      obtain ⟨e1, q2⟩ := Prod.mk.inj q1
      obtain ⟨e2, q3⟩ := Prod.mk.inj q2
      subst e0
      subst e1
      subst e2
      subst q3
      exact gRi hx hb hr hlocks hP hS dX4_tune_57
    · have hf := pit hf c_2
      refine lv_iconst (v := (-1 : Int32)) hx hb dX4_tune_38 (by decide) ?_
      have q0 := Option.some.inj hf
      obtain ⟨e0, q1⟩ := Prod.mk.inj q0
      obtain ⟨e1, q2⟩ := Prod.mk.inj q1
      obtain ⟨e2, q3⟩ := Prod.mk.inj q2
      subst e0
      subst e1
      subst e2
      subst q3
      exact gRi hx hb hr hlocks hP hS dX4_tune_39
  · have hf := pif hf c_7
    by_cases c_8 : i1 = (1 : Int32)
    · have hf := pit hf c_8
      refine gTab (off := 57) (tgt := 58) hx hb c_8 dX4_tune_1 (by decide) (by decide) (by decide) (by decide) ?_
      refine lv_iload_n hx hb dX4_tune_58 rfl (lv_at hl 2 rfl) ?_
      refine lv_iconst (v := (0 : Int32)) hx hb dX4_tune_59 (by decide) ?_
      refine lv_bipush (v := (20 : Int32)) hx hb dX4_tune_60 (by decide) ?_
      obtain ⟨r_3, hc, hf⟩ := pb1 hf
      refine gCi (va_runS (As := [.int i2, .int (0 : Int32), .int (20 : Int32)]) (rest := []) hF (kX4_within l dC dI Z cC cI cZ cW  _  i2 (0 : Int32) (20 : Int32) N r_3 hc) (cwS 3 hts gX4_tune_X4_within rfl rfl rfl (by decide +kernel) ⟨Nat.le_of_ble_eq_true rfl, Nat.le_of_ble_eq_true rfl⟩) (gPS (wc := []) hK hN hA hS hP hD [] rfl rfl) rfl rfl hl.1 rfl (lv_room (Nat.le_of_ble_eq_true rfl)) dX4_tune_62 ⟨Nat.zero_le _, Nat.zero_le _⟩) hP hD hS hA [] rfl rfl rfl (fun H locs hP hD hS => ?_)
      have hP : va_P (dC, dI) vwCl [(a_o, .inr (4, [.ref a_o_text, .ref a_o_tunes, .ref a_o_present, .ref a_o_ahead, .ref a_o_images, .ref a_o_kept, .ref a_o_order, .ref a_o_told, .ref a_o_draft, .long o_trace])), (a_o_tunes, .inr (2, [.int o_tunes_fade, .int o_tunes_winter, .int o_tunes_fall]))] H := hP
      have hD : va_D A [(a_o, .inr (4, [.ref a_o_text, .ref a_o_tunes, .ref a_o_present, .ref a_o_ahead, .ref a_o_images, .ref a_o_kept, .ref a_o_order, .ref a_o_told, .ref a_o_draft, .long o_trace])), (a_o_tunes, .inr (2, [.int o_tunes_fade, .int o_tunes_winter, .int o_tunes_fall]))] := hD
      refine lv_if_ne (tgt := 70) hx hb dX4_tune_65 (by decide) (fun c_4 => ?_) (fun c_4 => ?_)
      · have hf := pif hf c_4
        refine lv_aload_n hx hb dX4_tune_70 rfl (lv_at hl 0 rfl) ?_
        refine va_get (D := (dC, dI)) (ci := 4) (v := .ref a_o_tunes) (C := RX4) (T := TX4) (N := 10) hx hb hts uX4_tune_X4 hown hK hP 0 rfl rfl 1 (by decide) (hts _ mX4_tune_0) (fun _ h9 => h9) rfl dX4_tune_71 ?_
        refine va_get (D := (dC, dI)) (ci := 2) (v := .int o_tunes_winter) (C := RX2) (T := TX2) (N := 3) hx hb hts uX4_tune_X2 hown hK hP 1 rfl rfl 1 (by decide) (hts _ mX4_tune_2) (fun _ h9 => h9) rfl dX4_tune_74 ?_
        refine lv_istore_n (lv' := [(3, .int o_tunes_winter), (0, .ref a_o), (1, .int i1), (2, .int i2)]) hx hb dX4_tune_77 rfl hl (by decide) rfl (fun ls hl => ?_)
        refine lv_aload_n hx hb dX4_tune_78 rfl (lv_at hl 1 rfl) ?_
        refine va_get (D := (dC, dI)) (ci := 4) (v := .ref a_o_tunes) (C := RX4) (T := TX4) (N := 10) hx hb hts uX4_tune_X4 hown hK hP 0 rfl rfl 1 (by decide) (hts _ mX4_tune_0) (fun _ h9 => h9) rfl dX4_tune_79 ?_
        refine lv_iload_n hx hb dX4_tune_82 rfl (lv_at hl 3 rfl) ?_
        refine va_put (D := (dC, dI)) (ci := 2) (v := .int i2) (ty := .int) (C := RX2) (T := TX2) (N := 3) hx hb hts uX4_tune_X2 tyX2 tyX2_ok nmX2 hown hK hP hD hS 1 rfl rfl 1 (by decide) (hts _ mX4_tune_2) (fun _ h9 => h9) rfl (by decide +kernel) rfl rfl (Nat.le_of_ble_eq_true rfl) dX4_tune_83 (fun H locs hP hD hS => ?_)
        have hP : va_P (dC, dI) vwCl [(a_o, .inr (4, [.ref a_o_text, .ref a_o_tunes, .ref a_o_present, .ref a_o_ahead, .ref a_o_images, .ref a_o_kept, .ref a_o_order, .ref a_o_told, .ref a_o_draft, .long o_trace])), (a_o_tunes, .inr (2, [.int o_tunes_fade, .int i2, .int o_tunes_fall]))] H := hP
        have hD : va_D A [(a_o, .inr (4, [.ref a_o_text, .ref a_o_tunes, .ref a_o_present, .ref a_o_ahead, .ref a_o_images, .ref a_o_kept, .ref a_o_order, .ref a_o_told, .ref a_o_draft, .long o_trace])), (a_o_tunes, .inr (2, [.int o_tunes_fade, .int i2, .int o_tunes_fall]))] := hD
        refine lv_iload_n hx hb dX4_tune_86 rfl (lv_at hl 0 rfl) ?_
        have q0 := Option.some.inj hf
        obtain ⟨e0, q1⟩ := Prod.mk.inj q0
        obtain ⟨e1, q2⟩ := Prod.mk.inj q1
        obtain ⟨e2, q3⟩ := Prod.mk.inj q2
        subst e0
        subst e1
        subst e2
        subst q3
        exact gRi hx hb hr hlocks hP hS dX4_tune_87
      · have hf := pit hf c_4
        refine lv_iconst (v := (-1 : Int32)) hx hb dX4_tune_68 (by decide) ?_
        have q0 := Option.some.inj hf
        obtain ⟨e0, q1⟩ := Prod.mk.inj q0
        obtain ⟨e1, q2⟩ := Prod.mk.inj q1
        obtain ⟨e2, q3⟩ := Prod.mk.inj q2
        subst e0
        subst e1
        subst e2
        subst q3
        exact gRi hx hb hr hlocks hP hS dX4_tune_69
    · have hf := pif hf c_8
      by_cases c_9 : i1 = (2 : Int32)
      · have hf := pit hf c_9
        refine gTab (off := 87) (tgt := 88) hx hb c_9 dX4_tune_1 (by decide) (by decide) (by decide) (by decide) ?_
        refine lv_iload_n hx hb dX4_tune_88 rfl (lv_at hl 2 rfl) ?_
        refine lv_iconst (v := (1 : Int32)) hx hb dX4_tune_89 (by decide) ?_
        refine lv_bipush (v := (99 : Int32)) hx hb dX4_tune_90 (by decide) ?_
        obtain ⟨r_5, hc, hf⟩ := pb1 hf
        refine gCi (va_runS (As := [.int i2, .int (1 : Int32), .int (99 : Int32)]) (rest := []) hF (kX4_within l dC dI Z cC cI cZ cW  _  i2 (1 : Int32) (99 : Int32) N r_5 hc) (cwS 3 hts gX4_tune_X4_within rfl rfl rfl (by decide +kernel) ⟨Nat.le_of_ble_eq_true rfl, Nat.le_of_ble_eq_true rfl⟩) (gPS (wc := []) hK hN hA hS hP hD [] rfl rfl) rfl rfl hl.1 rfl (lv_room (Nat.le_of_ble_eq_true rfl)) dX4_tune_92 ⟨Nat.zero_le _, Nat.zero_le _⟩) hP hD hS hA [] rfl rfl rfl (fun H locs hP hD hS => ?_)
        have hP : va_P (dC, dI) vwCl [(a_o, .inr (4, [.ref a_o_text, .ref a_o_tunes, .ref a_o_present, .ref a_o_ahead, .ref a_o_images, .ref a_o_kept, .ref a_o_order, .ref a_o_told, .ref a_o_draft, .long o_trace])), (a_o_tunes, .inr (2, [.int o_tunes_fade, .int o_tunes_winter, .int o_tunes_fall]))] H := hP
        have hD : va_D A [(a_o, .inr (4, [.ref a_o_text, .ref a_o_tunes, .ref a_o_present, .ref a_o_ahead, .ref a_o_images, .ref a_o_kept, .ref a_o_order, .ref a_o_told, .ref a_o_draft, .long o_trace])), (a_o_tunes, .inr (2, [.int o_tunes_fade, .int o_tunes_winter, .int o_tunes_fall]))] := hD
        refine lv_if_ne (tgt := 100) hx hb dX4_tune_95 (by decide) (fun c_6 => ?_) (fun c_6 => ?_)
        · have hf := pif hf c_6
          refine lv_aload_n hx hb dX4_tune_100 rfl (lv_at hl 0 rfl) ?_
          refine va_get (D := (dC, dI)) (ci := 4) (v := .ref a_o_tunes) (C := RX4) (T := TX4) (N := 10) hx hb hts uX4_tune_X4 hown hK hP 0 rfl rfl 1 (by decide) (hts _ mX4_tune_0) (fun _ h9 => h9) rfl dX4_tune_101 ?_
          refine va_get (D := (dC, dI)) (ci := 2) (v := .int o_tunes_fall) (C := RX2) (T := TX2) (N := 3) hx hb hts uX4_tune_X2 hown hK hP 1 rfl rfl 2 (by decide) (hts _ mX4_tune_3) (fun _ h9 => h9) rfl dX4_tune_104 ?_
          refine lv_istore_n (lv' := [(3, .int o_tunes_fall), (0, .ref a_o), (1, .int i1), (2, .int i2)]) hx hb dX4_tune_107 rfl hl (by decide) rfl (fun ls hl => ?_)
          refine lv_aload_n hx hb dX4_tune_108 rfl (lv_at hl 1 rfl) ?_
          refine va_get (D := (dC, dI)) (ci := 4) (v := .ref a_o_tunes) (C := RX4) (T := TX4) (N := 10) hx hb hts uX4_tune_X4 hown hK hP 0 rfl rfl 1 (by decide) (hts _ mX4_tune_0) (fun _ h9 => h9) rfl dX4_tune_109 ?_
          refine lv_iload_n hx hb dX4_tune_112 rfl (lv_at hl 3 rfl) ?_
          refine va_put (D := (dC, dI)) (ci := 2) (v := .int i2) (ty := .int) (C := RX2) (T := TX2) (N := 3) hx hb hts uX4_tune_X2 tyX2 tyX2_ok nmX2 hown hK hP hD hS 1 rfl rfl 2 (by decide) (hts _ mX4_tune_3) (fun _ h9 => h9) rfl (by decide +kernel) rfl rfl (Nat.le_of_ble_eq_true rfl) dX4_tune_113 (fun H locs hP hD hS => ?_)
          have hP : va_P (dC, dI) vwCl [(a_o, .inr (4, [.ref a_o_text, .ref a_o_tunes, .ref a_o_present, .ref a_o_ahead, .ref a_o_images, .ref a_o_kept, .ref a_o_order, .ref a_o_told, .ref a_o_draft, .long o_trace])), (a_o_tunes, .inr (2, [.int o_tunes_fade, .int o_tunes_winter, .int i2]))] H := hP
          have hD : va_D A [(a_o, .inr (4, [.ref a_o_text, .ref a_o_tunes, .ref a_o_present, .ref a_o_ahead, .ref a_o_images, .ref a_o_kept, .ref a_o_order, .ref a_o_told, .ref a_o_draft, .long o_trace])), (a_o_tunes, .inr (2, [.int o_tunes_fade, .int o_tunes_winter, .int i2]))] := hD
          refine lv_iload_n hx hb dX4_tune_116 rfl (lv_at hl 0 rfl) ?_
          have q0 := Option.some.inj hf
          obtain ⟨e0, q1⟩ := Prod.mk.inj q0
          obtain ⟨e1, q2⟩ := Prod.mk.inj q1
          obtain ⟨e2, q3⟩ := Prod.mk.inj q2
          subst e0
          subst e1
          subst e2
          subst q3
          exact gRi hx hb hr hlocks hP hS dX4_tune_117
        · have hf := pit hf c_6
          refine lv_iconst (v := (-1 : Int32)) hx hb dX4_tune_98 (by decide) ?_
          have q0 := Option.some.inj hf
          obtain ⟨e0, q1⟩ := Prod.mk.inj q0
          obtain ⟨e1, q2⟩ := Prod.mk.inj q1
          obtain ⟨e2, q3⟩ := Prod.mk.inj q2
          subst e0
          subst e1
          subst e2
          subst q3
          exact gRi hx hb hr hlocks hP hS dX4_tune_99
      · have hf := pif hf c_9
        have c_7 := ti_ne (k := 0) c_7 (by decide)
        have c_8 := ti_ne (k := 1) c_8 (by decide)
        have c_9 := ti_ne (k := 2) c_9 (by decide)
        refine lv_tableOut (tgt := 118) hx hb dX4_tune_1 (by omega) (by decide) ?_
        refine lv_iconst (v := (-1 : Int32)) hx hb dX4_tune_118 (by decide) ?_
        have q0 := Option.some.inj hf
        obtain ⟨e0, q1⟩ := Prod.mk.inj q0
        obtain ⟨e1, q2⟩ := Prod.mk.inj q1
        obtain ⟨e2, q3⟩ := Prod.mk.inj q2
        subst e0
        subst e1
        subst e2
        subst q3
        exact gRi hx hb hr hlocks hP hS dX4_tune_119
abbrev rmX4_areTwo : Room := { frames := 2, cells := 0, slots := 0, locals := 43 }
set_option maxHeartbeats 4000000 in
set_option maxRecDepth 100000 in
theorem kX4_areTwo (l : Launch) (dC : Nat → ClassId) (dI : Nat → Nat → Nat) (Z : gZ) (cC cI cZ cW : ClassId) (a_o a_o_text a_o_tunes a_o_present a_o_ahead a_o_images a_o_kept a_o_order a_o_told a_o_draft a_o_told_needs a_o_told_yields a_o_told_skips a_o_told_skills a_o_told_places a_o_told_wheel : Nat) (sz : Nat) (o_trace : Int64) (o_told_trades : Int32) (o_told_people : Int32) (o_told_tradesEnded : Int32) (i1 : Int32) (i2 : Int32) (N : Nat) (r' : Int32) (hf : fX4_areTwo N o_told_people  i1 i2 = some r') : Met l yX4_areTwo wsX4_areTwo rmX4_areTwo (va_Pc [.ref a_o, .int i1, .int i2] (gB (dC, dI) Z [(cC, .char), (cI, .int), (cZ, .boolean), (cW, .object RX3)] [(a_o, .inr (4, [.ref a_o_text, .ref a_o_tunes, .ref a_o_present, .ref a_o_ahead, .ref a_o_images, .ref a_o_kept, .ref a_o_order, .ref a_o_told, .ref a_o_draft, .long o_trace])), (a_o_told, .inr (1, [.int o_told_trades, .int o_told_people, .ref a_o_told_needs, .ref a_o_told_yields, .ref a_o_told_skips, .ref a_o_told_skills, .ref a_o_told_places, .ref a_o_told_wheel, .int o_told_tradesEnded]))] sz)) (va_Qi (fun (r : Int32) (_ : Unit) => r = r') (gE (dC, dI) [(a_o, .inr (4, [.ref a_o_text, .ref a_o_tunes, .ref a_o_present, .ref a_o_ahead, .ref a_o_images, .ref a_o_kept, .ref a_o_order, .ref a_o_told, .ref a_o_draft, .long o_trace])), (a_o_told, .inr (1, [.int o_told_trades, .int o_told_people, .ref a_o_told_needs, .ref a_o_told_yields, .ref a_o_told_skips, .ref a_o_told_skills, .ref a_o_told_places, .ref a_o_told_wheel, .int o_told_tradesEnded]))]) (va_A [(a_o, .inr (4, [.ref a_o_text, .ref a_o_tunes, .ref a_o_present, .ref a_o_ahead, .ref a_o_images, .ref a_o_kept, .ref a_o_order, .ref a_o_told, .ref a_o_draft, .long o_trace])), (a_o_told, .inr (1, [.int o_told_trades, .int o_told_people, .ref a_o_told_needs, .ref a_o_told_yields, .ref a_o_told_skips, .ref a_o_told_skills, .ref a_o_told_places, .ref a_o_told_wheel, .int o_told_tradesEnded]))] sz)) 0 0 (va_A [(a_o, .inr (4, [.ref a_o_text, .ref a_o_tunes, .ref a_o_present, .ref a_o_ahead, .ref a_o_images, .ref a_o_kept, .ref a_o_order, .ref a_o_told, .ref a_o_draft, .long o_trace])), (a_o_told, .inr (1, [.int o_told_trades, .int o_told_people, .ref a_o_told_needs, .ref a_o_told_yields, .ref a_o_told_skips, .ref a_o_told_skills, .ref a_o_told_places, .ref a_o_told_wheel, .int o_told_tradesEnded]))] sz) := by
  refine gMet (cc := cX4_areTwo) (maxL := 3) (ret := (some .boolean)) (Qc := fun A => va_Qi (fun (r : Int32) (_ : Unit) => r = r') (gE (dC, dI) [(a_o, .inr (4, [.ref a_o_text, .ref a_o_tunes, .ref a_o_present, .ref a_o_ahead, .ref a_o_images, .ref a_o_kept, .ref a_o_order, .ref a_o_told, .ref a_o_draft, .long o_trace])), (a_o_told, .inr (1, [.int o_told_trades, .int o_told_people, .ref a_o_told_needs, .ref a_o_told_yields, .ref a_o_told_skips, .ref a_o_told_skills, .ref a_o_told_places, .ref a_o_told_wheel, .int o_told_tradesEnded]))]) A) (by decide) rfl (Nat.le_of_ble_eq_true rfl) ?_
  intro p e s m below meth c A ls hg0 _ hsz hP hD hS hl
  have hg0 : gX p s m _ meth c cX4_areTwo 3 (some .boolean) wsX4_areTwo RX4 (dC, dI) Z [(cC, .char), (cI, .int), (cZ, .boolean), (cW, .object RX3)] A := hg0
  obtain ⟨hx, hb, hr, hml, hown, hts, hlocks, hA, hK, hN⟩ := id hg0
  subst hsz
  have hF : CallFix p m c cX4_areTwo 3 s _ wsX4_areTwo RX4 := ⟨hx, hb, hml, hown, hts⟩
  have hl : lv_has ls 3 [(0, .ref a_o), (1, .int i1), (2, .int i2)] := hl
  unfold fX4_areTwo at hf
  refine lv_aload_n hx hb dX4_areTwo_0 rfl (lv_at hl 0 rfl) ?_
  refine lv_iload_n hx hb dX4_areTwo_1 rfl (lv_at hl 1 rfl) ?_
  obtain ⟨r_1, hc, hf⟩ := pb1 hf
  refine gCi (va_runV (As := [.int i1]) (rest := []) hF (kX4_isPerson l dC dI Z cC cI cZ cW a_o a_o_text a_o_tunes a_o_present a_o_ahead a_o_images a_o_kept a_o_order a_o_told a_o_draft a_o_told_needs a_o_told_yields a_o_told_skips a_o_told_skills a_o_told_places a_o_told_wheel _ o_trace o_told_trades o_told_people o_told_tradesEnded i1 N r_1 hc) (cwV 1 hts gX4_areTwo_X4_isPerson rfl rfl rfl (by decide +kernel) ⟨Nat.le_of_ble_eq_true rfl, Nat.le_of_ble_eq_true rfl⟩) (gPV (wc := [(a_o, .inr (4, [.ref a_o_text, .ref a_o_tunes, .ref a_o_present, .ref a_o_ahead, .ref a_o_images, .ref a_o_kept, .ref a_o_order, .ref a_o_told, .ref a_o_draft, .long o_trace])), (a_o_told, .inr (1, [.int o_told_trades, .int o_told_people, .ref a_o_told_needs, .ref a_o_told_yields, .ref a_o_told_skips, .ref a_o_told_skills, .ref a_o_told_places, .ref a_o_told_wheel, .int o_told_tradesEnded]))]) hK hN hA hS hP hD [0, 1] rfl rfl (q0 := 0) (ci := 4) rfl rfl rfl) rfl rfl hl.1 rfl (lv_room (Nat.le_of_ble_eq_true rfl)) dX4_areTwo_2 ⟨Nat.zero_le _, Nat.zero_le _⟩) hP hD hS hA [0, 1] rfl rfl rfl (fun H locs hP hD hS => ?_)
  have hP : va_P (dC, dI) vwCl [(a_o, .inr (4, [.ref a_o_text, .ref a_o_tunes, .ref a_o_present, .ref a_o_ahead, .ref a_o_images, .ref a_o_kept, .ref a_o_order, .ref a_o_told, .ref a_o_draft, .long o_trace])), (a_o_told, .inr (1, [.int o_told_trades, .int o_told_people, .ref a_o_told_needs, .ref a_o_told_yields, .ref a_o_told_skips, .ref a_o_told_skills, .ref a_o_told_places, .ref a_o_told_wheel, .int o_told_tradesEnded]))] H := hP
  have hD : va_D A [(a_o, .inr (4, [.ref a_o_text, .ref a_o_tunes, .ref a_o_present, .ref a_o_ahead, .ref a_o_images, .ref a_o_kept, .ref a_o_order, .ref a_o_told, .ref a_o_draft, .long o_trace])), (a_o_told, .inr (1, [.int o_told_trades, .int o_told_people, .ref a_o_told_needs, .ref a_o_told_yields, .ref a_o_told_skips, .ref a_o_told_skills, .ref a_o_told_places, .ref a_o_told_wheel, .int o_told_tradesEnded]))] := hD
  refine lv_if_eq (tgt := 25) hx hb dX4_areTwo_5 (by decide) (fun c_2 => ?_) (fun c_2 => ?_)
  · have hf := pit hf c_2
    refine lv_iconst (v := (0 : Int32)) hx hb dX4_areTwo_25 (by decide) ?_
    have q0 := Option.some.inj hf
    subst q0
    exact gRz hx hb hr rfl hlocks hP hS dX4_areTwo_26
  · have hf := pif hf c_2
    refine lv_aload_n hx hb dX4_areTwo_8 rfl (lv_at hl 0 rfl) ?_
    refine lv_iload_n hx hb dX4_areTwo_9 rfl (lv_at hl 2 rfl) ?_
    obtain ⟨r_3, hc, hf⟩ := pb1 hf
    refine gCi (va_runV (As := [.int i2]) (rest := []) hF (kX4_isPerson l dC dI Z cC cI cZ cW a_o a_o_text a_o_tunes a_o_present a_o_ahead a_o_images a_o_kept a_o_order a_o_told a_o_draft a_o_told_needs a_o_told_yields a_o_told_skips a_o_told_skills a_o_told_places a_o_told_wheel _ o_trace o_told_trades o_told_people o_told_tradesEnded i2 N r_3 hc) (cwV 1 hts gX4_areTwo_X4_isPerson rfl rfl rfl (by decide +kernel) ⟨Nat.le_of_ble_eq_true rfl, Nat.le_of_ble_eq_true rfl⟩) (gPV (wc := [(a_o, .inr (4, [.ref a_o_text, .ref a_o_tunes, .ref a_o_present, .ref a_o_ahead, .ref a_o_images, .ref a_o_kept, .ref a_o_order, .ref a_o_told, .ref a_o_draft, .long o_trace])), (a_o_told, .inr (1, [.int o_told_trades, .int o_told_people, .ref a_o_told_needs, .ref a_o_told_yields, .ref a_o_told_skips, .ref a_o_told_skills, .ref a_o_told_places, .ref a_o_told_wheel, .int o_told_tradesEnded]))]) hK hN hA hS hP hD [0, 1] rfl rfl (q0 := 0) (ci := 4) rfl rfl rfl) rfl rfl hl.1 rfl (lv_room (Nat.le_of_ble_eq_true rfl)) dX4_areTwo_10 ⟨Nat.zero_le _, Nat.zero_le _⟩) hP hD hS hA [0, 1] rfl rfl rfl (fun H locs hP hD hS => ?_)
    have hP : va_P (dC, dI) vwCl [(a_o, .inr (4, [.ref a_o_text, .ref a_o_tunes, .ref a_o_present, .ref a_o_ahead, .ref a_o_images, .ref a_o_kept, .ref a_o_order, .ref a_o_told, .ref a_o_draft, .long o_trace])), (a_o_told, .inr (1, [.int o_told_trades, .int o_told_people, .ref a_o_told_needs, .ref a_o_told_yields, .ref a_o_told_skips, .ref a_o_told_skills, .ref a_o_told_places, .ref a_o_told_wheel, .int o_told_tradesEnded]))] H := hP
    have hD : va_D A [(a_o, .inr (4, [.ref a_o_text, .ref a_o_tunes, .ref a_o_present, .ref a_o_ahead, .ref a_o_images, .ref a_o_kept, .ref a_o_order, .ref a_o_told, .ref a_o_draft, .long o_trace])), (a_o_told, .inr (1, [.int o_told_trades, .int o_told_people, .ref a_o_told_needs, .ref a_o_told_yields, .ref a_o_told_skips, .ref a_o_told_skills, .ref a_o_told_places, .ref a_o_told_wheel, .int o_told_tradesEnded]))] := hD
    refine lv_if_eq (tgt := 25) hx hb dX4_areTwo_13 (by decide) (fun c_4 => ?_) (fun c_4 => ?_)
    · have hf := pit hf c_4
      refine lv_iconst (v := (0 : Int32)) hx hb dX4_areTwo_25 (by decide) ?_
      have q0 := Option.some.inj hf
      subst q0
      exact gRz hx hb hr rfl hlocks hP hS dX4_areTwo_26
    · have hf := pif hf c_4
      refine lv_iload_n hx hb dX4_areTwo_16 rfl (lv_at hl 1 rfl) ?_
      refine lv_iload_n hx hb dX4_areTwo_17 rfl (lv_at hl 2 rfl) ?_
      refine lv_icmp_eq (tgt := 25) hx hb dX4_areTwo_18 (by decide) (fun c_5 => ?_) (fun c_5 => ?_)
      · have hf := pit hf c_5
        refine lv_iconst (v := (0 : Int32)) hx hb dX4_areTwo_25 (by decide) ?_
        have q0 := Option.some.inj hf
        subst q0
        exact gRz hx hb hr rfl hlocks hP hS dX4_areTwo_26
      · have hf := pif hf c_5
        refine lv_iconst (v := (1 : Int32)) hx hb dX4_areTwo_21 (by decide) ?_
        refine lv_goto (tgt := 26) hx hb dX4_areTwo_22 (by decide) ?_
        have q0 := Option.some.inj hf
        subst q0
        exact gRz hx hb hr rfl hlocks hP hS dX4_areTwo_26
abbrev rmX4_help : Room := { frames := 3, cells := 0, slots := 0, locals := 65 }
set_option maxRecDepth 20000 in
theorem uX4_help_X3 : ∀ w ∈ wsX30, w ∈ wsX4_help := by decide +kernel
set_option maxRecDepth 20000 in
theorem uX4_help_X4 : ∀ w ∈ wsX40, w ∈ wsX4_help := by decide +kernel
set_option maxRecDepth 20000 in
theorem mX4_help_0 : (Cond.fieldLink RX4 26 "TradeWheel" "present" "LTradeWheel$World;" : Cond) ∈ wsX4_help := by decide +kernel
set_option maxRecDepth 20000 in
theorem mX4_help_1 : (Cond.fieldLink RX4 156 "TradeWheel$World" "helpers" "[I" : Cond) ∈ wsX4_help := by decide +kernel
set_option maxHeartbeats 4000000 in
set_option maxRecDepth 100000 in
theorem kX4_help (l : Launch) (dC : Nat → ClassId) (dI : Nat → Nat → Nat) (Z : gZ) (cC cI cZ cW : ClassId) (a_o a_o_text a_o_tunes a_o_present a_o_ahead a_o_images a_o_kept a_o_order a_o_told a_o_draft a_o_present_skills a_o_present_places a_o_present_stores a_o_present_lacked a_o_present_helpers a_o_present_favours a_o_present_wheel a_o_present_works a_o_told_needs a_o_told_yields a_o_told_skips a_o_told_skills a_o_told_places a_o_told_wheel : Nat) (sz : Nat) (o_trace : Int64) (o_present_round : Int32) (o_present_fell : Int32) (o_present_ills : Int32) (o_present_helpers : Nat → Int32) (o_told_trades : Int32) (o_told_people : Int32) (o_told_tradesEnded : Int32) (i1 : Int32) (i2 : Int32) (N : Nat) (r' : Int32) (o_present_helpers' : Nat → Int32) (hf : fX4_help N o_present_helpers o_told_people  i1 i2 = some (r', o_present_helpers')) : Met l yX4_help wsX4_help rmX4_help (va_Pc [.ref a_o, .int i1, .int i2] (gB (dC, dI) Z [(cC, .char), (cI, .int), (cZ, .boolean), (cW, .object RX3)] [(a_o, .inr (4, [.ref a_o_text, .ref a_o_tunes, .ref a_o_present, .ref a_o_ahead, .ref a_o_images, .ref a_o_kept, .ref a_o_order, .ref a_o_told, .ref a_o_draft, .long o_trace])), (a_o_present, .inr (3, [.int o_present_round, .int o_present_fell, .int o_present_ills, .ref a_o_present_skills, .ref a_o_present_places, .ref a_o_present_stores, .ref a_o_present_lacked, .ref a_o_present_helpers, .ref a_o_present_favours, .ref a_o_present_wheel, .ref a_o_present_works])), (a_o_present_helpers, .inl (cI, 6, .inl o_present_helpers)), (a_o_told, .inr (1, [.int o_told_trades, .int o_told_people, .ref a_o_told_needs, .ref a_o_told_yields, .ref a_o_told_skips, .ref a_o_told_skills, .ref a_o_told_places, .ref a_o_told_wheel, .int o_told_tradesEnded]))] sz)) (va_Qi (fun (r : Int32) (_ : Unit) => r = r') (gE (dC, dI) [(a_o, .inr (4, [.ref a_o_text, .ref a_o_tunes, .ref a_o_present, .ref a_o_ahead, .ref a_o_images, .ref a_o_kept, .ref a_o_order, .ref a_o_told, .ref a_o_draft, .long o_trace])), (a_o_present, .inr (3, [.int o_present_round, .int o_present_fell, .int o_present_ills, .ref a_o_present_skills, .ref a_o_present_places, .ref a_o_present_stores, .ref a_o_present_lacked, .ref a_o_present_helpers, .ref a_o_present_favours, .ref a_o_present_wheel, .ref a_o_present_works])), (a_o_present_helpers, .inl (cI, 6, .inl o_present_helpers')), (a_o_told, .inr (1, [.int o_told_trades, .int o_told_people, .ref a_o_told_needs, .ref a_o_told_yields, .ref a_o_told_skips, .ref a_o_told_skills, .ref a_o_told_places, .ref a_o_told_wheel, .int o_told_tradesEnded]))]) (va_A [(a_o, .inr (4, [.ref a_o_text, .ref a_o_tunes, .ref a_o_present, .ref a_o_ahead, .ref a_o_images, .ref a_o_kept, .ref a_o_order, .ref a_o_told, .ref a_o_draft, .long o_trace])), (a_o_present, .inr (3, [.int o_present_round, .int o_present_fell, .int o_present_ills, .ref a_o_present_skills, .ref a_o_present_places, .ref a_o_present_stores, .ref a_o_present_lacked, .ref a_o_present_helpers, .ref a_o_present_favours, .ref a_o_present_wheel, .ref a_o_present_works])), (a_o_present_helpers, .inl (cI, 6, .inl o_present_helpers)), (a_o_told, .inr (1, [.int o_told_trades, .int o_told_people, .ref a_o_told_needs, .ref a_o_told_yields, .ref a_o_told_skips, .ref a_o_told_skills, .ref a_o_told_places, .ref a_o_told_wheel, .int o_told_tradesEnded]))] sz)) 0 0 (va_A [(a_o, .inr (4, [.ref a_o_text, .ref a_o_tunes, .ref a_o_present, .ref a_o_ahead, .ref a_o_images, .ref a_o_kept, .ref a_o_order, .ref a_o_told, .ref a_o_draft, .long o_trace])), (a_o_present, .inr (3, [.int o_present_round, .int o_present_fell, .int o_present_ills, .ref a_o_present_skills, .ref a_o_present_places, .ref a_o_present_stores, .ref a_o_present_lacked, .ref a_o_present_helpers, .ref a_o_present_favours, .ref a_o_present_wheel, .ref a_o_present_works])), (a_o_present_helpers, .inl (cI, 6, .inl o_present_helpers)), (a_o_told, .inr (1, [.int o_told_trades, .int o_told_people, .ref a_o_told_needs, .ref a_o_told_yields, .ref a_o_told_skips, .ref a_o_told_skills, .ref a_o_told_places, .ref a_o_told_wheel, .int o_told_tradesEnded]))] sz) := by
  refine gMet (cc := cX4_help) (maxL := 3) (ret := (some .int)) (Qc := fun A => va_Qi (fun (r : Int32) (_ : Unit) => r = r') (gE (dC, dI) [(a_o, .inr (4, [.ref a_o_text, .ref a_o_tunes, .ref a_o_present, .ref a_o_ahead, .ref a_o_images, .ref a_o_kept, .ref a_o_order, .ref a_o_told, .ref a_o_draft, .long o_trace])), (a_o_present, .inr (3, [.int o_present_round, .int o_present_fell, .int o_present_ills, .ref a_o_present_skills, .ref a_o_present_places, .ref a_o_present_stores, .ref a_o_present_lacked, .ref a_o_present_helpers, .ref a_o_present_favours, .ref a_o_present_wheel, .ref a_o_present_works])), (a_o_present_helpers, .inl (cI, 6, .inl o_present_helpers')), (a_o_told, .inr (1, [.int o_told_trades, .int o_told_people, .ref a_o_told_needs, .ref a_o_told_yields, .ref a_o_told_skips, .ref a_o_told_skills, .ref a_o_told_places, .ref a_o_told_wheel, .int o_told_tradesEnded]))]) A) (by decide) rfl (Nat.le_of_ble_eq_true rfl) ?_
  intro p e s m below meth c A ls hg0 _ hsz hP hD hS hl
  have hg0 : gX p s m _ meth c cX4_help 3 (some .int) wsX4_help RX4 (dC, dI) Z [(cC, .char), (cI, .int), (cZ, .boolean), (cW, .object RX3)] A := hg0
  obtain ⟨hx, hb, hr, hml, hown, hts, hlocks, hA, hK, hN⟩ := id hg0
  subst hsz
  have hF : CallFix p m c cX4_help 3 s _ wsX4_help RX4 := ⟨hx, hb, hml, hown, hts⟩
  have hl : lv_has ls 3 [(0, .ref a_o), (1, .int i1), (2, .int i2)] := hl
  unfold fX4_help at hf
  refine lv_aload_n hx hb dX4_help_0 rfl (lv_at hl 0 rfl) ?_
  refine lv_iload_n hx hb dX4_help_1 rfl (lv_at hl 1 rfl) ?_
  refine lv_iload_n hx hb dX4_help_2 rfl (lv_at hl 2 rfl) ?_
  obtain ⟨r_1, hc, hf⟩ := pb1 hf
  refine gCi (va_runV (As := [.int i1, .int i2]) (rest := []) hF (kX4_areTwo l dC dI Z cC cI cZ cW a_o a_o_text a_o_tunes a_o_present a_o_ahead a_o_images a_o_kept a_o_order a_o_told a_o_draft a_o_told_needs a_o_told_yields a_o_told_skips a_o_told_skills a_o_told_places a_o_told_wheel _ o_trace o_told_trades o_told_people o_told_tradesEnded i1 i2 N r_1 hc) (cwV 2 hts gX4_help_X4_areTwo rfl rfl rfl (by decide +kernel) ⟨Nat.le_of_ble_eq_true rfl, Nat.le_of_ble_eq_true rfl⟩) (gPV (wc := [(a_o, .inr (4, [.ref a_o_text, .ref a_o_tunes, .ref a_o_present, .ref a_o_ahead, .ref a_o_images, .ref a_o_kept, .ref a_o_order, .ref a_o_told, .ref a_o_draft, .long o_trace])), (a_o_told, .inr (1, [.int o_told_trades, .int o_told_people, .ref a_o_told_needs, .ref a_o_told_yields, .ref a_o_told_skips, .ref a_o_told_skills, .ref a_o_told_places, .ref a_o_told_wheel, .int o_told_tradesEnded]))]) hK hN hA hS hP hD [0, 3] rfl rfl (q0 := 0) (ci := 4) rfl rfl rfl) rfl rfl hl.1 rfl (lv_room (Nat.le_of_ble_eq_true rfl)) dX4_help_3 ⟨Nat.zero_le _, Nat.zero_le _⟩) hP hD hS hA [0, 3] rfl rfl rfl (fun H locs hP hD hS => ?_)
  have hP : va_P (dC, dI) vwCl [(a_o, .inr (4, [.ref a_o_text, .ref a_o_tunes, .ref a_o_present, .ref a_o_ahead, .ref a_o_images, .ref a_o_kept, .ref a_o_order, .ref a_o_told, .ref a_o_draft, .long o_trace])), (a_o_present, .inr (3, [.int o_present_round, .int o_present_fell, .int o_present_ills, .ref a_o_present_skills, .ref a_o_present_places, .ref a_o_present_stores, .ref a_o_present_lacked, .ref a_o_present_helpers, .ref a_o_present_favours, .ref a_o_present_wheel, .ref a_o_present_works])), (a_o_present_helpers, .inl (cI, 6, .inl o_present_helpers)), (a_o_told, .inr (1, [.int o_told_trades, .int o_told_people, .ref a_o_told_needs, .ref a_o_told_yields, .ref a_o_told_skips, .ref a_o_told_skills, .ref a_o_told_places, .ref a_o_told_wheel, .int o_told_tradesEnded]))] H := hP
  have hD : va_D A [(a_o, .inr (4, [.ref a_o_text, .ref a_o_tunes, .ref a_o_present, .ref a_o_ahead, .ref a_o_images, .ref a_o_kept, .ref a_o_order, .ref a_o_told, .ref a_o_draft, .long o_trace])), (a_o_present, .inr (3, [.int o_present_round, .int o_present_fell, .int o_present_ills, .ref a_o_present_skills, .ref a_o_present_places, .ref a_o_present_stores, .ref a_o_present_lacked, .ref a_o_present_helpers, .ref a_o_present_favours, .ref a_o_present_wheel, .ref a_o_present_works])), (a_o_present_helpers, .inl (cI, 6, .inl o_present_helpers)), (a_o_told, .inr (1, [.int o_told_trades, .int o_told_people, .ref a_o_told_needs, .ref a_o_told_yields, .ref a_o_told_skips, .ref a_o_told_skills, .ref a_o_told_places, .ref a_o_told_wheel, .int o_told_tradesEnded]))] := hD
  refine lv_if_ne (tgt := 11) hx hb dX4_help_6 (by decide) (fun c_2 => ?_) (fun c_2 => ?_)
  · have hf := pif hf c_2
    refine lv_aload_n hx hb dX4_help_11 rfl (lv_at hl 0 rfl) ?_
    refine va_get (D := (dC, dI)) (ci := 4) (v := .ref a_o_present) (C := RX4) (T := TX4) (N := 10) hx hb hts uX4_help_X4 hown hK hP 0 rfl rfl 2 (by decide) (hts _ mX4_help_0) (fun _ h9 => h9) rfl dX4_help_12 ?_
    refine lv_iload_n hx hb dX4_help_15 rfl (lv_at hl 1 rfl) ?_
    obtain ⟨r_3, hc, hf⟩ := pb1 hf
    refine gCi (va_runV (As := [.int i1]) (rest := []) hF (kX3_whomHelps l dC dI Z cC cI cZ cW a_o_present a_o_present_skills a_o_present_places a_o_present_stores a_o_present_lacked a_o_present_helpers a_o_present_favours a_o_present_wheel a_o_present_works _ o_present_round o_present_fell o_present_ills o_present_helpers i1 N r_3 hc) (cwV 1 hts gX4_help_X3_whomHelps rfl rfl rfl (by decide +kernel) ⟨Nat.le_of_ble_eq_true rfl, Nat.le_of_ble_eq_true rfl⟩) (gPV (wc := [(a_o_present, .inr (3, [.int o_present_round, .int o_present_fell, .int o_present_ills, .ref a_o_present_skills, .ref a_o_present_places, .ref a_o_present_stores, .ref a_o_present_lacked, .ref a_o_present_helpers, .ref a_o_present_favours, .ref a_o_present_wheel, .ref a_o_present_works])), (a_o_present_helpers, .inl (cI, 6, .inl o_present_helpers))]) hK hN hA hS hP hD [1, 2] rfl rfl (q0 := 0) (ci := 3) rfl rfl rfl) rfl rfl hl.1 rfl (lv_room (Nat.le_of_ble_eq_true rfl)) dX4_help_16 ⟨Nat.zero_le _, Nat.zero_le _⟩) hP hD hS hA [1, 2] rfl rfl rfl (fun H locs hP hD hS => ?_)
    have hP : va_P (dC, dI) vwCl [(a_o, .inr (4, [.ref a_o_text, .ref a_o_tunes, .ref a_o_present, .ref a_o_ahead, .ref a_o_images, .ref a_o_kept, .ref a_o_order, .ref a_o_told, .ref a_o_draft, .long o_trace])), (a_o_present, .inr (3, [.int o_present_round, .int o_present_fell, .int o_present_ills, .ref a_o_present_skills, .ref a_o_present_places, .ref a_o_present_stores, .ref a_o_present_lacked, .ref a_o_present_helpers, .ref a_o_present_favours, .ref a_o_present_wheel, .ref a_o_present_works])), (a_o_present_helpers, .inl (cI, 6, .inl o_present_helpers)), (a_o_told, .inr (1, [.int o_told_trades, .int o_told_people, .ref a_o_told_needs, .ref a_o_told_yields, .ref a_o_told_skips, .ref a_o_told_skills, .ref a_o_told_places, .ref a_o_told_wheel, .int o_told_tradesEnded]))] H := hP
    have hD : va_D A [(a_o, .inr (4, [.ref a_o_text, .ref a_o_tunes, .ref a_o_present, .ref a_o_ahead, .ref a_o_images, .ref a_o_kept, .ref a_o_order, .ref a_o_told, .ref a_o_draft, .long o_trace])), (a_o_present, .inr (3, [.int o_present_round, .int o_present_fell, .int o_present_ills, .ref a_o_present_skills, .ref a_o_present_places, .ref a_o_present_stores, .ref a_o_present_lacked, .ref a_o_present_helpers, .ref a_o_present_favours, .ref a_o_present_wheel, .ref a_o_present_works])), (a_o_present_helpers, .inl (cI, 6, .inl o_present_helpers)), (a_o_told, .inr (1, [.int o_told_trades, .int o_told_people, .ref a_o_told_needs, .ref a_o_told_yields, .ref a_o_told_skips, .ref a_o_told_skills, .ref a_o_told_places, .ref a_o_told_wheel, .int o_told_tradesEnded]))] := hD
    refine lv_bipush (v := (-9 : Int32)) hx hb dX4_help_19 (by decide) ?_
    refine lv_icmp_ne (tgt := 38) hx hb dX4_help_21 (by decide) (fun c_4 => ?_) (fun c_4 => ?_)
    · have hf := pif hf c_4
      refine lv_bipush (v := (-2 : Int32)) hx hb dX4_help_38 (by decide) ?_
      have q0 := Option.some.inj hf
      obtain ⟨e0, q1⟩ := Prod.mk.inj q0
      subst e0
      subst q1
      exact gRi hx hb hr hlocks hP hS dX4_help_40
    · have hf := pit hf c_4
      refine lv_aload_n hx hb dX4_help_24 rfl (lv_at hl 0 rfl) ?_
      refine va_get (D := (dC, dI)) (ci := 4) (v := .ref a_o_present) (C := RX4) (T := TX4) (N := 10) hx hb hts uX4_help_X4 hown hK hP 0 rfl rfl 2 (by decide) (hts _ mX4_help_0) (fun _ h9 => h9) rfl dX4_help_25 ?_
      refine va_get (D := (dC, dI)) (ci := 3) (v := .ref a_o_present_helpers) (C := RX3) (T := TX3) (N := 11) hx hb hts uX4_help_X3 hown hK hP 1 rfl rfl 7 (by decide) (hts _ mX4_help_1) (fun _ h9 => h9) rfl dX4_help_28 ?_
      refine lv_iload_n hx hb dX4_help_31 rfl (lv_at hl 2 rfl) ?_
      obtain ⟨h_5, hf⟩ := pgd hf
      refine va_iald hx hb hK hP 2 1 rfl rfl h_5 dX4_help_32 ?_
      refine lv_bipush (v := (-9 : Int32)) hx hb dX4_help_33 (by decide) ?_
      refine lv_icmp_eq (tgt := 41) hx hb dX4_help_35 (by decide) (fun c_6 => ?_) (fun c_6 => ?_)
      · have hf := pit hf c_6
        refine lv_aload_n hx hb dX4_help_41 rfl (lv_at hl 0 rfl) ?_
        refine va_get (D := (dC, dI)) (ci := 4) (v := .ref a_o_present) (C := RX4) (T := TX4) (N := 10) hx hb hts uX4_help_X4 hown hK hP 0 rfl rfl 2 (by decide) (hts _ mX4_help_0) (fun _ h9 => h9) rfl dX4_help_42 ?_
        refine va_get (D := (dC, dI)) (ci := 3) (v := .ref a_o_present_helpers) (C := RX3) (T := TX3) (N := 11) hx hb hts uX4_help_X3 hown hK hP 1 rfl rfl 7 (by decide) (hts _ mX4_help_1) (fun _ h9 => h9) rfl dX4_help_45 ?_
        refine lv_iload_n hx hb dX4_help_48 rfl (lv_at hl 2 rfl) ?_
        refine lv_iload_n hx hb dX4_help_49 rfl (lv_at hl 1 rfl) ?_
        obtain ⟨h_7, hf⟩ := pgd hf
        refine va_iast hx hb hK hP hD hS 2 1 rfl rfl h_7 dX4_help_50 (fun H locs hP hD hS => ?_)
        have hP : va_P (dC, dI) vwCl [(a_o, .inr (4, [.ref a_o_text, .ref a_o_tunes, .ref a_o_present, .ref a_o_ahead, .ref a_o_images, .ref a_o_kept, .ref a_o_order, .ref a_o_told, .ref a_o_draft, .long o_trace])), (a_o_present, .inr (3, [.int o_present_round, .int o_present_fell, .int o_present_ills, .ref a_o_present_skills, .ref a_o_present_places, .ref a_o_present_stores, .ref a_o_present_lacked, .ref a_o_present_helpers, .ref a_o_present_favours, .ref a_o_present_wheel, .ref a_o_present_works])), (a_o_present_helpers, .inl (cI, 6, .inl (upd o_present_helpers i2.toNatClampNeg i1))), (a_o_told, .inr (1, [.int o_told_trades, .int o_told_people, .ref a_o_told_needs, .ref a_o_told_yields, .ref a_o_told_skips, .ref a_o_told_skills, .ref a_o_told_places, .ref a_o_told_wheel, .int o_told_tradesEnded]))] H := hP
        have hD : va_D A [(a_o, .inr (4, [.ref a_o_text, .ref a_o_tunes, .ref a_o_present, .ref a_o_ahead, .ref a_o_images, .ref a_o_kept, .ref a_o_order, .ref a_o_told, .ref a_o_draft, .long o_trace])), (a_o_present, .inr (3, [.int o_present_round, .int o_present_fell, .int o_present_ills, .ref a_o_present_skills, .ref a_o_present_places, .ref a_o_present_stores, .ref a_o_present_lacked, .ref a_o_present_helpers, .ref a_o_present_favours, .ref a_o_present_wheel, .ref a_o_present_works])), (a_o_present_helpers, .inl (cI, 6, .inl (upd o_present_helpers i2.toNatClampNeg i1))), (a_o_told, .inr (1, [.int o_told_trades, .int o_told_people, .ref a_o_told_needs, .ref a_o_told_yields, .ref a_o_told_skips, .ref a_o_told_skills, .ref a_o_told_places, .ref a_o_told_wheel, .int o_told_tradesEnded]))] := hD
        refine lv_iconst (v := (1 : Int32)) hx hb dX4_help_51 (by decide) ?_
        have q0 := Option.some.inj hf
        obtain ⟨e0, q1⟩ := Prod.mk.inj q0
        subst e0
        subst q1
        exact gRi hx hb hr hlocks hP hS dX4_help_52
      · have hf := pif hf c_6
        refine lv_bipush (v := (-2 : Int32)) hx hb dX4_help_38 (by decide) ?_
        have q0 := Option.some.inj hf
        obtain ⟨e0, q1⟩ := Prod.mk.inj q0
        subst e0
        subst q1
        exact gRi hx hb hr hlocks hP hS dX4_help_40
  · have hf := pit hf c_2
    refine lv_iconst (v := (-1 : Int32)) hx hb dX4_help_9 (by decide) ?_
    have q0 := Option.some.inj hf
    obtain ⟨e0, q1⟩ := Prod.mk.inj q0
    subst e0
    subst q1
    exact gRi hx hb hr hlocks hP hS dX4_help_10
abbrev rmX4_ill : Room := { frames := 2, cells := 0, slots := 0, locals := 43 }
set_option maxRecDepth 20000 in
theorem uX4_ill_X4 : ∀ w ∈ wsX40, w ∈ wsX4_ill := by decide +kernel
set_option maxRecDepth 20000 in
theorem mX4_ill_0 : (Cond.fieldLink RX4 26 "TradeWheel" "present" "LTradeWheel$World;" : Cond) ∈ wsX4_ill := by decide +kernel
set_option maxHeartbeats 4000000 in
set_option maxRecDepth 100000 in
theorem kX4_ill (l : Launch) (dC : Nat → ClassId) (dI : Nat → Nat → Nat) (Z : gZ) (cC cI cZ cW : ClassId) (a_o a_o_text a_o_tunes a_o_present a_o_ahead a_o_images a_o_kept a_o_order a_o_told a_o_draft a_o_present_skills a_o_present_places a_o_present_stores a_o_present_lacked a_o_present_helpers a_o_present_favours a_o_present_wheel a_o_present_works a_o_told_needs a_o_told_yields a_o_told_skips a_o_told_skills a_o_told_places a_o_told_wheel : Nat) (sz : Nat) (o_trace : Int64) (o_present_round : Int32) (o_present_fell : Int32) (o_present_ills : Int32) (o_told_trades : Int32) (o_told_people : Int32) (o_told_tradesEnded : Int32) (i1 : Int32) (N : Nat) (r' : Int32) (o_present_ills' : Int32) (hf : fX4_ill N o_present_ills o_told_people  i1 = some (r', o_present_ills')) : Met l yX4_ill wsX4_ill rmX4_ill (va_Pc [.ref a_o, .int i1] (gB (dC, dI) Z [(cC, .char), (cI, .int), (cZ, .boolean), (cW, .object RX3)] [(a_o, .inr (4, [.ref a_o_text, .ref a_o_tunes, .ref a_o_present, .ref a_o_ahead, .ref a_o_images, .ref a_o_kept, .ref a_o_order, .ref a_o_told, .ref a_o_draft, .long o_trace])), (a_o_present, .inr (3, [.int o_present_round, .int o_present_fell, .int o_present_ills, .ref a_o_present_skills, .ref a_o_present_places, .ref a_o_present_stores, .ref a_o_present_lacked, .ref a_o_present_helpers, .ref a_o_present_favours, .ref a_o_present_wheel, .ref a_o_present_works])), (a_o_told, .inr (1, [.int o_told_trades, .int o_told_people, .ref a_o_told_needs, .ref a_o_told_yields, .ref a_o_told_skips, .ref a_o_told_skills, .ref a_o_told_places, .ref a_o_told_wheel, .int o_told_tradesEnded]))] sz)) (va_Qi (fun (r : Int32) (_ : Unit) => r = r') (gE (dC, dI) [(a_o, .inr (4, [.ref a_o_text, .ref a_o_tunes, .ref a_o_present, .ref a_o_ahead, .ref a_o_images, .ref a_o_kept, .ref a_o_order, .ref a_o_told, .ref a_o_draft, .long o_trace])), (a_o_present, .inr (3, [.int o_present_round, .int o_present_fell, .int o_present_ills', .ref a_o_present_skills, .ref a_o_present_places, .ref a_o_present_stores, .ref a_o_present_lacked, .ref a_o_present_helpers, .ref a_o_present_favours, .ref a_o_present_wheel, .ref a_o_present_works])), (a_o_told, .inr (1, [.int o_told_trades, .int o_told_people, .ref a_o_told_needs, .ref a_o_told_yields, .ref a_o_told_skips, .ref a_o_told_skills, .ref a_o_told_places, .ref a_o_told_wheel, .int o_told_tradesEnded]))]) (va_A [(a_o, .inr (4, [.ref a_o_text, .ref a_o_tunes, .ref a_o_present, .ref a_o_ahead, .ref a_o_images, .ref a_o_kept, .ref a_o_order, .ref a_o_told, .ref a_o_draft, .long o_trace])), (a_o_present, .inr (3, [.int o_present_round, .int o_present_fell, .int o_present_ills, .ref a_o_present_skills, .ref a_o_present_places, .ref a_o_present_stores, .ref a_o_present_lacked, .ref a_o_present_helpers, .ref a_o_present_favours, .ref a_o_present_wheel, .ref a_o_present_works])), (a_o_told, .inr (1, [.int o_told_trades, .int o_told_people, .ref a_o_told_needs, .ref a_o_told_yields, .ref a_o_told_skips, .ref a_o_told_skills, .ref a_o_told_places, .ref a_o_told_wheel, .int o_told_tradesEnded]))] sz)) 0 0 (va_A [(a_o, .inr (4, [.ref a_o_text, .ref a_o_tunes, .ref a_o_present, .ref a_o_ahead, .ref a_o_images, .ref a_o_kept, .ref a_o_order, .ref a_o_told, .ref a_o_draft, .long o_trace])), (a_o_present, .inr (3, [.int o_present_round, .int o_present_fell, .int o_present_ills, .ref a_o_present_skills, .ref a_o_present_places, .ref a_o_present_stores, .ref a_o_present_lacked, .ref a_o_present_helpers, .ref a_o_present_favours, .ref a_o_present_wheel, .ref a_o_present_works])), (a_o_told, .inr (1, [.int o_told_trades, .int o_told_people, .ref a_o_told_needs, .ref a_o_told_yields, .ref a_o_told_skips, .ref a_o_told_skills, .ref a_o_told_places, .ref a_o_told_wheel, .int o_told_tradesEnded]))] sz) := by
  refine gMet (cc := cX4_ill) (maxL := 2) (ret := (some .int)) (Qc := fun A => va_Qi (fun (r : Int32) (_ : Unit) => r = r') (gE (dC, dI) [(a_o, .inr (4, [.ref a_o_text, .ref a_o_tunes, .ref a_o_present, .ref a_o_ahead, .ref a_o_images, .ref a_o_kept, .ref a_o_order, .ref a_o_told, .ref a_o_draft, .long o_trace])), (a_o_present, .inr (3, [.int o_present_round, .int o_present_fell, .int o_present_ills', .ref a_o_present_skills, .ref a_o_present_places, .ref a_o_present_stores, .ref a_o_present_lacked, .ref a_o_present_helpers, .ref a_o_present_favours, .ref a_o_present_wheel, .ref a_o_present_works])), (a_o_told, .inr (1, [.int o_told_trades, .int o_told_people, .ref a_o_told_needs, .ref a_o_told_yields, .ref a_o_told_skips, .ref a_o_told_skills, .ref a_o_told_places, .ref a_o_told_wheel, .int o_told_tradesEnded]))]) A) (by decide) rfl (Nat.le_of_ble_eq_true rfl) ?_
  intro p e s m below meth c A ls hg0 _ hsz hP hD hS hl
  have hg0 : gX p s m _ meth c cX4_ill 2 (some .int) wsX4_ill RX4 (dC, dI) Z [(cC, .char), (cI, .int), (cZ, .boolean), (cW, .object RX3)] A := hg0
  obtain ⟨hx, hb, hr, hml, hown, hts, hlocks, hA, hK, hN⟩ := id hg0
  subst hsz
  have hF : CallFix p m c cX4_ill 2 s _ wsX4_ill RX4 := ⟨hx, hb, hml, hown, hts⟩
  have hl : lv_has ls 2 [(0, .ref a_o), (1, .int i1)] := hl
  unfold fX4_ill at hf
  refine lv_aload_n hx hb dX4_ill_0 rfl (lv_at hl 0 rfl) ?_
  refine lv_iload_n hx hb dX4_ill_1 rfl (lv_at hl 1 rfl) ?_
  obtain ⟨r_1, hc, hf⟩ := pb1 hf
  refine gCi (va_runV (As := [.int i1]) (rest := []) hF (kX4_isPerson l dC dI Z cC cI cZ cW a_o a_o_text a_o_tunes a_o_present a_o_ahead a_o_images a_o_kept a_o_order a_o_told a_o_draft a_o_told_needs a_o_told_yields a_o_told_skips a_o_told_skills a_o_told_places a_o_told_wheel _ o_trace o_told_trades o_told_people o_told_tradesEnded i1 N r_1 hc) (cwV 1 hts gX4_ill_X4_isPerson rfl rfl rfl (by decide +kernel) ⟨Nat.le_of_ble_eq_true rfl, Nat.le_of_ble_eq_true rfl⟩) (gPV (wc := [(a_o, .inr (4, [.ref a_o_text, .ref a_o_tunes, .ref a_o_present, .ref a_o_ahead, .ref a_o_images, .ref a_o_kept, .ref a_o_order, .ref a_o_told, .ref a_o_draft, .long o_trace])), (a_o_told, .inr (1, [.int o_told_trades, .int o_told_people, .ref a_o_told_needs, .ref a_o_told_yields, .ref a_o_told_skips, .ref a_o_told_skills, .ref a_o_told_places, .ref a_o_told_wheel, .int o_told_tradesEnded]))]) hK hN hA hS hP hD [0, 2] rfl rfl (q0 := 0) (ci := 4) rfl rfl rfl) rfl rfl hl.1 rfl (lv_room (Nat.le_of_ble_eq_true rfl)) dX4_ill_2 ⟨Nat.zero_le _, Nat.zero_le _⟩) hP hD hS hA [0, 2] rfl rfl rfl (fun H locs hP hD hS => ?_)
  have hP : va_P (dC, dI) vwCl [(a_o, .inr (4, [.ref a_o_text, .ref a_o_tunes, .ref a_o_present, .ref a_o_ahead, .ref a_o_images, .ref a_o_kept, .ref a_o_order, .ref a_o_told, .ref a_o_draft, .long o_trace])), (a_o_present, .inr (3, [.int o_present_round, .int o_present_fell, .int o_present_ills, .ref a_o_present_skills, .ref a_o_present_places, .ref a_o_present_stores, .ref a_o_present_lacked, .ref a_o_present_helpers, .ref a_o_present_favours, .ref a_o_present_wheel, .ref a_o_present_works])), (a_o_told, .inr (1, [.int o_told_trades, .int o_told_people, .ref a_o_told_needs, .ref a_o_told_yields, .ref a_o_told_skips, .ref a_o_told_skills, .ref a_o_told_places, .ref a_o_told_wheel, .int o_told_tradesEnded]))] H := hP
  have hD : va_D A [(a_o, .inr (4, [.ref a_o_text, .ref a_o_tunes, .ref a_o_present, .ref a_o_ahead, .ref a_o_images, .ref a_o_kept, .ref a_o_order, .ref a_o_told, .ref a_o_draft, .long o_trace])), (a_o_present, .inr (3, [.int o_present_round, .int o_present_fell, .int o_present_ills, .ref a_o_present_skills, .ref a_o_present_places, .ref a_o_present_stores, .ref a_o_present_lacked, .ref a_o_present_helpers, .ref a_o_present_favours, .ref a_o_present_wheel, .ref a_o_present_works])), (a_o_told, .inr (1, [.int o_told_trades, .int o_told_people, .ref a_o_told_needs, .ref a_o_told_yields, .ref a_o_told_skips, .ref a_o_told_skills, .ref a_o_told_places, .ref a_o_told_wheel, .int o_told_tradesEnded]))] := hD
  refine lv_if_ne (tgt := 10) hx hb dX4_ill_5 (by decide) (fun c_2 => ?_) (fun c_2 => ?_)
  · have hf := pif hf c_2
    refine lv_aload_n hx hb dX4_ill_10 rfl (lv_at hl 0 rfl) ?_
    refine va_get (D := (dC, dI)) (ci := 4) (v := .ref a_o_present) (C := RX4) (T := TX4) (N := 10) hx hb hts uX4_ill_X4 hown hK hP 0 rfl rfl 2 (by decide) (hts _ mX4_ill_0) (fun _ h9 => h9) rfl dX4_ill_11 ?_
    refine lv_iload_n hx hb dX4_ill_14 rfl (lv_at hl 1 rfl) ?_
    obtain ⟨r_3, hc, hf⟩ := pb1 hf
    refine gCi (va_runV (As := [.int i1]) (rest := []) hF (kX3_isIll l dC dI Z cC cI cZ cW a_o_present a_o_present_skills a_o_present_places a_o_present_stores a_o_present_lacked a_o_present_helpers a_o_present_favours a_o_present_wheel a_o_present_works _ o_present_round o_present_fell o_present_ills i1 N r_3 hc) (cwV 1 hts gX4_ill_X3_isIll rfl rfl rfl (by decide +kernel) ⟨Nat.le_of_ble_eq_true rfl, Nat.le_of_ble_eq_true rfl⟩) (gPV (wc := [(a_o_present, .inr (3, [.int o_present_round, .int o_present_fell, .int o_present_ills, .ref a_o_present_skills, .ref a_o_present_places, .ref a_o_present_stores, .ref a_o_present_lacked, .ref a_o_present_helpers, .ref a_o_present_favours, .ref a_o_present_wheel, .ref a_o_present_works]))]) hK hN hA hS hP hD [1] rfl rfl (q0 := 0) (ci := 3) rfl rfl rfl) rfl rfl hl.1 rfl (lv_room (Nat.le_of_ble_eq_true rfl)) dX4_ill_15 ⟨Nat.zero_le _, Nat.zero_le _⟩) hP hD hS hA [1] rfl rfl rfl (fun H locs hP hD hS => ?_)
    have hP : va_P (dC, dI) vwCl [(a_o, .inr (4, [.ref a_o_text, .ref a_o_tunes, .ref a_o_present, .ref a_o_ahead, .ref a_o_images, .ref a_o_kept, .ref a_o_order, .ref a_o_told, .ref a_o_draft, .long o_trace])), (a_o_present, .inr (3, [.int o_present_round, .int o_present_fell, .int o_present_ills, .ref a_o_present_skills, .ref a_o_present_places, .ref a_o_present_stores, .ref a_o_present_lacked, .ref a_o_present_helpers, .ref a_o_present_favours, .ref a_o_present_wheel, .ref a_o_present_works])), (a_o_told, .inr (1, [.int o_told_trades, .int o_told_people, .ref a_o_told_needs, .ref a_o_told_yields, .ref a_o_told_skips, .ref a_o_told_skills, .ref a_o_told_places, .ref a_o_told_wheel, .int o_told_tradesEnded]))] H := hP
    have hD : va_D A [(a_o, .inr (4, [.ref a_o_text, .ref a_o_tunes, .ref a_o_present, .ref a_o_ahead, .ref a_o_images, .ref a_o_kept, .ref a_o_order, .ref a_o_told, .ref a_o_draft, .long o_trace])), (a_o_present, .inr (3, [.int o_present_round, .int o_present_fell, .int o_present_ills, .ref a_o_present_skills, .ref a_o_present_places, .ref a_o_present_stores, .ref a_o_present_lacked, .ref a_o_present_helpers, .ref a_o_present_favours, .ref a_o_present_wheel, .ref a_o_present_works])), (a_o_told, .inr (1, [.int o_told_trades, .int o_told_people, .ref a_o_told_needs, .ref a_o_told_yields, .ref a_o_told_skips, .ref a_o_told_skills, .ref a_o_told_places, .ref a_o_told_wheel, .int o_told_tradesEnded]))] := hD
    refine lv_if_eq (tgt := 23) hx hb dX4_ill_18 (by decide) (fun c_4 => ?_) (fun c_4 => ?_)
    · have hf := pit hf c_4
      refine lv_aload_n hx hb dX4_ill_23 rfl (lv_at hl 0 rfl) ?_
      refine va_get (D := (dC, dI)) (ci := 4) (v := .ref a_o_present) (C := RX4) (T := TX4) (N := 10) hx hb hts uX4_ill_X4 hown hK hP 0 rfl rfl 2 (by decide) (hts _ mX4_ill_0) (fun _ h9 => h9) rfl dX4_ill_24 ?_
      refine lv_iload_n hx hb dX4_ill_27 rfl (lv_at hl 1 rfl) ?_
      obtain ⟨o_present_ills_5, hc, hf⟩ := pb1 hf
      refine gCv (va_runV (As := [.int i1]) (rest := []) hF (kX3_fallIll l dC dI Z cC cI cZ cW a_o_present a_o_present_skills a_o_present_places a_o_present_stores a_o_present_lacked a_o_present_helpers a_o_present_favours a_o_present_wheel a_o_present_works _ o_present_round o_present_fell o_present_ills i1 N o_present_ills_5 hc) (cwV 1 hts gX4_ill_X3_fallIll rfl rfl rfl (by decide +kernel) ⟨Nat.le_of_ble_eq_true rfl, Nat.le_of_ble_eq_true rfl⟩) (gPV (wc := [(a_o_present, .inr (3, [.int o_present_round, .int o_present_fell, .int o_present_ills, .ref a_o_present_skills, .ref a_o_present_places, .ref a_o_present_stores, .ref a_o_present_lacked, .ref a_o_present_helpers, .ref a_o_present_favours, .ref a_o_present_wheel, .ref a_o_present_works]))]) hK hN hA hS hP hD [1] rfl rfl (q0 := 0) (ci := 3) rfl rfl rfl) rfl rfl hl.1 rfl (lv_room (Nat.le_of_ble_eq_true rfl)) dX4_ill_28 ⟨Nat.zero_le _, Nat.zero_le _⟩) hP hD hS hA [1] rfl rfl rfl (fun H locs hP hD hS => ?_)
      have hP : va_P (dC, dI) vwCl [(a_o, .inr (4, [.ref a_o_text, .ref a_o_tunes, .ref a_o_present, .ref a_o_ahead, .ref a_o_images, .ref a_o_kept, .ref a_o_order, .ref a_o_told, .ref a_o_draft, .long o_trace])), (a_o_present, .inr (3, [.int o_present_round, .int o_present_fell, .int o_present_ills_5, .ref a_o_present_skills, .ref a_o_present_places, .ref a_o_present_stores, .ref a_o_present_lacked, .ref a_o_present_helpers, .ref a_o_present_favours, .ref a_o_present_wheel, .ref a_o_present_works])), (a_o_told, .inr (1, [.int o_told_trades, .int o_told_people, .ref a_o_told_needs, .ref a_o_told_yields, .ref a_o_told_skips, .ref a_o_told_skills, .ref a_o_told_places, .ref a_o_told_wheel, .int o_told_tradesEnded]))] H := hP
      have hD : va_D A [(a_o, .inr (4, [.ref a_o_text, .ref a_o_tunes, .ref a_o_present, .ref a_o_ahead, .ref a_o_images, .ref a_o_kept, .ref a_o_order, .ref a_o_told, .ref a_o_draft, .long o_trace])), (a_o_present, .inr (3, [.int o_present_round, .int o_present_fell, .int o_present_ills_5, .ref a_o_present_skills, .ref a_o_present_places, .ref a_o_present_stores, .ref a_o_present_lacked, .ref a_o_present_helpers, .ref a_o_present_favours, .ref a_o_present_wheel, .ref a_o_present_works])), (a_o_told, .inr (1, [.int o_told_trades, .int o_told_people, .ref a_o_told_needs, .ref a_o_told_yields, .ref a_o_told_skips, .ref a_o_told_skills, .ref a_o_told_places, .ref a_o_told_wheel, .int o_told_tradesEnded]))] := hD
      refine lv_iconst (v := (1 : Int32)) hx hb dX4_ill_31 (by decide) ?_
      have q0 := Option.some.inj hf
      obtain ⟨e0, q1⟩ := Prod.mk.inj q0
      subst e0
      subst q1
      exact gRi hx hb hr hlocks hP hS dX4_ill_32
    · have hf := pif hf c_4
      refine lv_iconst (v := (0 : Int32)) hx hb dX4_ill_21 (by decide) ?_
      have q0 := Option.some.inj hf
      obtain ⟨e0, q1⟩ := Prod.mk.inj q0
      subst e0
      subst q1
      exact gRi hx hb hr hlocks hP hS dX4_ill_22
  · have hf := pit hf c_2
    refine lv_iconst (v := (-1 : Int32)) hx hb dX4_ill_8 (by decide) ?_
    have q0 := Option.some.inj hf
    obtain ⟨e0, q1⟩ := Prod.mk.inj q0
    subst e0
    subst q1
    exact gRi hx hb hr hlocks hP hS dX4_ill_9
abbrev rmX4_swap : Room := { frames := 0, cells := 0, slots := 0, locals := 0 }
set_option maxHeartbeats 4000000 in
set_option maxRecDepth 100000 in
theorem kX4_swap (l : Launch) (dC : Nat → ClassId) (dI : Nat → Nat → Nat) (Z : gZ) (cC cI cZ cW : ClassId) (a_x0 : Nat) (sz : Nat) (x0 : Nat → Int32) (i1 : Int32) (i2 : Int32) (N : Nat) (x0' : Nat → Int32) (hf : fX4_swap N x0  i1 i2 = some x0') : Met l yX4_swap wsX4_swap rmX4_swap (va_Pc [.ref a_x0, .int i1, .int i2] (gB (dC, dI) Z [(cC, .char), (cI, .int), (cZ, .boolean), (cW, .object RX3)] [(a_x0, .inl (cI, 6, .inl x0))] sz)) (va_Qv (fun (_ : Unit) => True) (gE (dC, dI) [(a_x0, .inl (cI, 6, .inl x0'))]) (va_A [(a_x0, .inl (cI, 6, .inl x0))] sz)) 0 0 (va_A [(a_x0, .inl (cI, 6, .inl x0))] sz) := by
  refine gMet (cc := cX4_swap) (maxL := 4) (ret := none) (Qc := fun A => va_Qv (fun (_ : Unit) => True) (gE (dC, dI) [(a_x0, .inl (cI, 6, .inl x0'))]) A) (by decide) rfl (Nat.le_of_ble_eq_true rfl) ?_
  intro p e s m below meth c A ls hg0 _ hsz hP hD hS hl
  have hg0 : gX p s m _ meth c cX4_swap 4 none wsX4_swap RX4 (dC, dI) Z [(cC, .char), (cI, .int), (cZ, .boolean), (cW, .object RX3)] A := hg0
  obtain ⟨hx, hb, hr, hml, hown, hts, hlocks, hA, hK, hN⟩ := id hg0
  subst hsz
  have hF : CallFix p m c cX4_swap 4 s _ wsX4_swap RX4 := ⟨hx, hb, hml, hown, hts⟩
  have hl : lv_has ls 4 [(0, .ref a_x0), (1, .int i1), (2, .int i2)] := hl
  unfold fX4_swap at hf
  refine lv_aload_n hx hb dX4_swap_0 rfl (lv_at hl 0 rfl) ?_
  refine lv_iload_n hx hb dX4_swap_1 rfl (lv_at hl 1 rfl) ?_
  obtain ⟨h_1, hf⟩ := pgd hf
  refine va_iald hx hb hK hP 0 1 rfl rfl h_1 dX4_swap_2 ?_
  refine lv_istore_n (lv' := [(3, .int (x0 i1.toNatClampNeg)), (0, .ref a_x0), (1, .int i1), (2, .int i2)]) hx hb dX4_swap_3 rfl hl (by decide) rfl (fun ls hl => ?_)
  refine lv_aload_n hx hb dX4_swap_4 rfl (lv_at hl 1 rfl) ?_
  refine lv_iload_n hx hb dX4_swap_5 rfl (lv_at hl 2 rfl) ?_
  refine lv_aload_n hx hb dX4_swap_6 rfl (lv_at hl 1 rfl) ?_
  refine lv_iload_n hx hb dX4_swap_7 rfl (lv_at hl 3 rfl) ?_
  obtain ⟨h_2, hf⟩ := pgd hf
  refine va_iald hx hb hK hP 0 1 rfl rfl h_2 dX4_swap_8 ?_
  obtain ⟨h_3, hf⟩ := pgd hf
  refine va_iast hx hb hK hP hD hS 0 1 rfl rfl h_3 dX4_swap_9 (fun H locs hP hD hS => ?_)
  have hP : va_P (dC, dI) vwCl [(a_x0, .inl (cI, 6, .inl (upd x0 i1.toNatClampNeg (x0 i2.toNatClampNeg))))] H := hP
  have hD : va_D A [(a_x0, .inl (cI, 6, .inl (upd x0 i1.toNatClampNeg (x0 i2.toNatClampNeg))))] := hD
  refine lv_aload_n hx hb dX4_swap_10 rfl (lv_at hl 1 rfl) ?_
  refine lv_iload_n hx hb dX4_swap_11 rfl (lv_at hl 3 rfl) ?_
  refine lv_iload_n hx hb dX4_swap_12 rfl (lv_at hl 0 rfl) ?_
  obtain ⟨h_4, hf⟩ := pgd hf
  refine va_iast hx hb hK hP hD hS 0 1 rfl rfl h_4 dX4_swap_13 (fun H locs hP hD hS => ?_)
  have hP : va_P (dC, dI) vwCl [(a_x0, .inl (cI, 6, .inl (upd (upd x0 i1.toNatClampNeg (x0 i2.toNatClampNeg)) i2.toNatClampNeg (x0 i1.toNatClampNeg))))] H := hP
  have hD : va_D A [(a_x0, .inl (cI, 6, .inl (upd (upd x0 i1.toNatClampNeg (x0 i2.toNatClampNeg)) i2.toNatClampNeg (x0 i1.toNatClampNeg))))] := hD
  have q0 := Option.some.inj hf
  subst q0
  exact gRv hx hb hr hlocks hP hS dX4_swap_14
abbrev rmX4_oil : Room := { frames := 2, cells := 0, slots := 0, locals := 43 }
set_option maxRecDepth 20000 in
theorem uX4_oil_X1 : ∀ w ∈ wsX10, w ∈ wsX4_oil := by decide +kernel
set_option maxRecDepth 20000 in
theorem uX4_oil_X3 : ∀ w ∈ wsX30, w ∈ wsX4_oil := by decide +kernel
set_option maxRecDepth 20000 in
theorem uX4_oil_X4 : ∀ w ∈ wsX40, w ∈ wsX4_oil := by decide +kernel
set_option maxRecDepth 20000 in
theorem mX4_oil_0 : (Cond.fieldLink RX4 48 "TradeWheel" "told" "LTradeWheel$Told;" : Cond) ∈ wsX4_oil := by decide +kernel
set_option maxRecDepth 20000 in
theorem mX4_oil_1 : (Cond.fieldLink RX4 144 "TradeWheel$Told" "trades" "I" : Cond) ∈ wsX4_oil := by decide +kernel
set_option maxRecDepth 20000 in
theorem mX4_oil_2 : (Cond.fieldLink RX4 26 "TradeWheel" "present" "LTradeWheel$World;" : Cond) ∈ wsX4_oil := by decide +kernel
set_option maxRecDepth 20000 in
theorem mX4_oil_3 : (Cond.fieldLink RX4 129 "TradeWheel$World" "wheel" "[I" : Cond) ∈ wsX4_oil := by decide +kernel
set_option maxHeartbeats 4000000 in
set_option maxRecDepth 100000 in
theorem kX4_oil (l : Launch) (dC : Nat → ClassId) (dI : Nat → Nat → Nat) (Z : gZ) (cC cI cZ cW : ClassId) (a_o a_o_text a_o_tunes a_o_present a_o_ahead a_o_images a_o_kept a_o_order a_o_told a_o_draft a_o_present_skills a_o_present_places a_o_present_stores a_o_present_lacked a_o_present_helpers a_o_present_favours a_o_present_wheel a_o_present_works a_o_told_needs a_o_told_yields a_o_told_skips a_o_told_skills a_o_told_places a_o_told_wheel : Nat) (sz : Nat) (o_trace : Int64) (o_present_round : Int32) (o_present_fell : Int32) (o_present_ills : Int32) (o_present_wheel : Nat → Int32) (o_told_trades : Int32) (o_told_people : Int32) (o_told_tradesEnded : Int32) (i1 : Int32) (N : Nat) (r' : Int32) (o_present_wheel' : Nat → Int32) (hf : fX4_oil N o_present_wheel o_told_trades  i1 = some (r', o_present_wheel')) : Met l yX4_oil wsX4_oil rmX4_oil (va_Pc [.ref a_o, .int i1] (gB (dC, dI) Z [(cC, .char), (cI, .int), (cZ, .boolean), (cW, .object RX3)] [(a_o, .inr (4, [.ref a_o_text, .ref a_o_tunes, .ref a_o_present, .ref a_o_ahead, .ref a_o_images, .ref a_o_kept, .ref a_o_order, .ref a_o_told, .ref a_o_draft, .long o_trace])), (a_o_present, .inr (3, [.int o_present_round, .int o_present_fell, .int o_present_ills, .ref a_o_present_skills, .ref a_o_present_places, .ref a_o_present_stores, .ref a_o_present_lacked, .ref a_o_present_helpers, .ref a_o_present_favours, .ref a_o_present_wheel, .ref a_o_present_works])), (a_o_present_wheel, .inl (cI, 6, .inl o_present_wheel)), (a_o_told, .inr (1, [.int o_told_trades, .int o_told_people, .ref a_o_told_needs, .ref a_o_told_yields, .ref a_o_told_skips, .ref a_o_told_skills, .ref a_o_told_places, .ref a_o_told_wheel, .int o_told_tradesEnded]))] sz)) (va_Qi (fun (r : Int32) (_ : Unit) => r = r') (gE (dC, dI) [(a_o, .inr (4, [.ref a_o_text, .ref a_o_tunes, .ref a_o_present, .ref a_o_ahead, .ref a_o_images, .ref a_o_kept, .ref a_o_order, .ref a_o_told, .ref a_o_draft, .long o_trace])), (a_o_present, .inr (3, [.int o_present_round, .int o_present_fell, .int o_present_ills, .ref a_o_present_skills, .ref a_o_present_places, .ref a_o_present_stores, .ref a_o_present_lacked, .ref a_o_present_helpers, .ref a_o_present_favours, .ref a_o_present_wheel, .ref a_o_present_works])), (a_o_present_wheel, .inl (cI, 6, .inl o_present_wheel')), (a_o_told, .inr (1, [.int o_told_trades, .int o_told_people, .ref a_o_told_needs, .ref a_o_told_yields, .ref a_o_told_skips, .ref a_o_told_skills, .ref a_o_told_places, .ref a_o_told_wheel, .int o_told_tradesEnded]))]) (va_A [(a_o, .inr (4, [.ref a_o_text, .ref a_o_tunes, .ref a_o_present, .ref a_o_ahead, .ref a_o_images, .ref a_o_kept, .ref a_o_order, .ref a_o_told, .ref a_o_draft, .long o_trace])), (a_o_present, .inr (3, [.int o_present_round, .int o_present_fell, .int o_present_ills, .ref a_o_present_skills, .ref a_o_present_places, .ref a_o_present_stores, .ref a_o_present_lacked, .ref a_o_present_helpers, .ref a_o_present_favours, .ref a_o_present_wheel, .ref a_o_present_works])), (a_o_present_wheel, .inl (cI, 6, .inl o_present_wheel)), (a_o_told, .inr (1, [.int o_told_trades, .int o_told_people, .ref a_o_told_needs, .ref a_o_told_yields, .ref a_o_told_skips, .ref a_o_told_skills, .ref a_o_told_places, .ref a_o_told_wheel, .int o_told_tradesEnded]))] sz)) 0 0 (va_A [(a_o, .inr (4, [.ref a_o_text, .ref a_o_tunes, .ref a_o_present, .ref a_o_ahead, .ref a_o_images, .ref a_o_kept, .ref a_o_order, .ref a_o_told, .ref a_o_draft, .long o_trace])), (a_o_present, .inr (3, [.int o_present_round, .int o_present_fell, .int o_present_ills, .ref a_o_present_skills, .ref a_o_present_places, .ref a_o_present_stores, .ref a_o_present_lacked, .ref a_o_present_helpers, .ref a_o_present_favours, .ref a_o_present_wheel, .ref a_o_present_works])), (a_o_present_wheel, .inl (cI, 6, .inl o_present_wheel)), (a_o_told, .inr (1, [.int o_told_trades, .int o_told_people, .ref a_o_told_needs, .ref a_o_told_yields, .ref a_o_told_skips, .ref a_o_told_skills, .ref a_o_told_places, .ref a_o_told_wheel, .int o_told_tradesEnded]))] sz) := by
  refine gMet (cc := cX4_oil) (maxL := 2) (ret := (some .int)) (Qc := fun A => va_Qi (fun (r : Int32) (_ : Unit) => r = r') (gE (dC, dI) [(a_o, .inr (4, [.ref a_o_text, .ref a_o_tunes, .ref a_o_present, .ref a_o_ahead, .ref a_o_images, .ref a_o_kept, .ref a_o_order, .ref a_o_told, .ref a_o_draft, .long o_trace])), (a_o_present, .inr (3, [.int o_present_round, .int o_present_fell, .int o_present_ills, .ref a_o_present_skills, .ref a_o_present_places, .ref a_o_present_stores, .ref a_o_present_lacked, .ref a_o_present_helpers, .ref a_o_present_favours, .ref a_o_present_wheel, .ref a_o_present_works])), (a_o_present_wheel, .inl (cI, 6, .inl o_present_wheel')), (a_o_told, .inr (1, [.int o_told_trades, .int o_told_people, .ref a_o_told_needs, .ref a_o_told_yields, .ref a_o_told_skips, .ref a_o_told_skills, .ref a_o_told_places, .ref a_o_told_wheel, .int o_told_tradesEnded]))]) A) (by decide) rfl (Nat.le_of_ble_eq_true rfl) ?_
  intro p e s m below meth c A ls hg0 _ hsz hP hD hS hl
  have hg0 : gX p s m _ meth c cX4_oil 2 (some .int) wsX4_oil RX4 (dC, dI) Z [(cC, .char), (cI, .int), (cZ, .boolean), (cW, .object RX3)] A := hg0
  obtain ⟨hx, hb, hr, hml, hown, hts, hlocks, hA, hK, hN⟩ := id hg0
  subst hsz
  have hF : CallFix p m c cX4_oil 2 s _ wsX4_oil RX4 := ⟨hx, hb, hml, hown, hts⟩
  have hl : lv_has ls 2 [(0, .ref a_o), (1, .int i1)] := hl
  unfold fX4_oil at hf
  refine lv_aload_n hx hb dX4_oil_0 rfl (lv_at hl 0 rfl) ?_
  refine lv_iload_n hx hb dX4_oil_1 rfl (lv_at hl 1 rfl) ?_
  obtain ⟨r_1, hc, hf⟩ := pb1 hf
  refine gCi (va_runV (As := [.int i1]) (rest := []) hF (kX4_isTrade l dC dI Z cC cI cZ cW a_o a_o_text a_o_tunes a_o_present a_o_ahead a_o_images a_o_kept a_o_order a_o_told a_o_draft a_o_told_needs a_o_told_yields a_o_told_skips a_o_told_skills a_o_told_places a_o_told_wheel _ o_trace o_told_trades o_told_people o_told_tradesEnded i1 N r_1 hc) (cwV 1 hts gX4_oil_X4_isTrade rfl rfl rfl (by decide +kernel) ⟨Nat.le_of_ble_eq_true rfl, Nat.le_of_ble_eq_true rfl⟩) (gPV (wc := [(a_o, .inr (4, [.ref a_o_text, .ref a_o_tunes, .ref a_o_present, .ref a_o_ahead, .ref a_o_images, .ref a_o_kept, .ref a_o_order, .ref a_o_told, .ref a_o_draft, .long o_trace])), (a_o_told, .inr (1, [.int o_told_trades, .int o_told_people, .ref a_o_told_needs, .ref a_o_told_yields, .ref a_o_told_skips, .ref a_o_told_skills, .ref a_o_told_places, .ref a_o_told_wheel, .int o_told_tradesEnded]))]) hK hN hA hS hP hD [0, 3] rfl rfl (q0 := 0) (ci := 4) rfl rfl rfl) rfl rfl hl.1 rfl (lv_room (Nat.le_of_ble_eq_true rfl)) dX4_oil_2 ⟨Nat.zero_le _, Nat.zero_le _⟩) hP hD hS hA [0, 3] rfl rfl rfl (fun H locs hP hD hS => ?_)
  have hP : va_P (dC, dI) vwCl [(a_o, .inr (4, [.ref a_o_text, .ref a_o_tunes, .ref a_o_present, .ref a_o_ahead, .ref a_o_images, .ref a_o_kept, .ref a_o_order, .ref a_o_told, .ref a_o_draft, .long o_trace])), (a_o_present, .inr (3, [.int o_present_round, .int o_present_fell, .int o_present_ills, .ref a_o_present_skills, .ref a_o_present_places, .ref a_o_present_stores, .ref a_o_present_lacked, .ref a_o_present_helpers, .ref a_o_present_favours, .ref a_o_present_wheel, .ref a_o_present_works])), (a_o_present_wheel, .inl (cI, 6, .inl o_present_wheel)), (a_o_told, .inr (1, [.int o_told_trades, .int o_told_people, .ref a_o_told_needs, .ref a_o_told_yields, .ref a_o_told_skips, .ref a_o_told_skills, .ref a_o_told_places, .ref a_o_told_wheel, .int o_told_tradesEnded]))] H := hP
  have hD : va_D A [(a_o, .inr (4, [.ref a_o_text, .ref a_o_tunes, .ref a_o_present, .ref a_o_ahead, .ref a_o_images, .ref a_o_kept, .ref a_o_order, .ref a_o_told, .ref a_o_draft, .long o_trace])), (a_o_present, .inr (3, [.int o_present_round, .int o_present_fell, .int o_present_ills, .ref a_o_present_skills, .ref a_o_present_places, .ref a_o_present_stores, .ref a_o_present_lacked, .ref a_o_present_helpers, .ref a_o_present_favours, .ref a_o_present_wheel, .ref a_o_present_works])), (a_o_present_wheel, .inl (cI, 6, .inl o_present_wheel)), (a_o_told, .inr (1, [.int o_told_trades, .int o_told_people, .ref a_o_told_needs, .ref a_o_told_yields, .ref a_o_told_skips, .ref a_o_told_skills, .ref a_o_told_places, .ref a_o_told_wheel, .int o_told_tradesEnded]))] := hD
  refine lv_if_ne (tgt := 10) hx hb dX4_oil_5 (by decide) (fun c_2 => ?_) (fun c_2 => ?_)
  · have hf := pif hf c_2
    refine lv_aload_n hx hb dX4_oil_10 rfl (lv_at hl 0 rfl) ?_
    refine va_get (D := (dC, dI)) (ci := 4) (v := .ref a_o_told) (C := RX4) (T := TX4) (N := 10) hx hb hts uX4_oil_X4 hown hK hP 0 rfl rfl 7 (by decide) (hts _ mX4_oil_0) (fun _ h9 => h9) rfl dX4_oil_11 ?_
    refine va_get (D := (dC, dI)) (ci := 1) (v := .int o_told_trades) (C := RX1) (T := TX1) (N := 9) hx hb hts uX4_oil_X1 hown hK hP 3 rfl rfl 0 (by decide) (hts _ mX4_oil_1) (fun _ h9 => h9) rfl dX4_oil_14 ?_
    refine lv_iconst (v := (1 : Int32)) hx hb dX4_oil_17 (by decide) ?_
    refine lv_icmp_ne (tgt := 24) hx hb dX4_oil_18 (by decide) (fun c_3 => ?_) (fun c_3 => ?_)
    · have hf := pif hf c_3
      refine lv_aload_n hx hb dX4_oil_24 rfl (lv_at hl 0 rfl) ?_
      refine va_get (D := (dC, dI)) (ci := 4) (v := .ref a_o_present) (C := RX4) (T := TX4) (N := 10) hx hb hts uX4_oil_X4 hown hK hP 0 rfl rfl 2 (by decide) (hts _ mX4_oil_2) (fun _ h9 => h9) rfl dX4_oil_25 ?_
      refine va_get (D := (dC, dI)) (ci := 3) (v := .ref a_o_present_wheel) (C := RX3) (T := TX3) (N := 11) hx hb hts uX4_oil_X3 hown hK hP 1 rfl rfl 9 (by decide) (hts _ mX4_oil_3) (fun _ h9 => h9) rfl dX4_oil_28 ?_
      refine lv_iload_n hx hb dX4_oil_31 rfl (lv_at hl 1 rfl) ?_
      refine lv_aload_n hx hb dX4_oil_32 rfl (lv_at hl 0 rfl) ?_
      refine va_get (D := (dC, dI)) (ci := 4) (v := .ref a_o_told) (C := RX4) (T := TX4) (N := 10) hx hb hts uX4_oil_X4 hown hK hP 0 rfl rfl 7 (by decide) (hts _ mX4_oil_0) (fun _ h9 => h9) rfl dX4_oil_33 ?_
      refine lv_iload_n hx hb dX4_oil_36 rfl (lv_at hl 1 rfl) ?_
      obtain ⟨r_4, hc, hf⟩ := pb1 hf
      refine gCi (va_runV (As := [.int i1]) (rest := [.int i1, .ref a_o_present_wheel]) hF (kX1_behind l dC dI Z cC cI cZ cW a_o_told a_o_told_needs a_o_told_yields a_o_told_skips a_o_told_skills a_o_told_places a_o_told_wheel _ o_told_trades o_told_people o_told_tradesEnded i1 N r_4 hc) (cwV 1 hts gX4_oil_X1_behind rfl rfl rfl (by decide +kernel) ⟨Nat.le_of_ble_eq_true rfl, Nat.le_of_ble_eq_true rfl⟩) (gPV (wc := [(a_o_told, .inr (1, [.int o_told_trades, .int o_told_people, .ref a_o_told_needs, .ref a_o_told_yields, .ref a_o_told_skips, .ref a_o_told_skills, .ref a_o_told_places, .ref a_o_told_wheel, .int o_told_tradesEnded]))]) hK hN hA hS hP hD [3] rfl rfl (q0 := 0) (ci := 1) rfl rfl rfl) rfl rfl hl.1 rfl (lv_room (Nat.le_of_ble_eq_true rfl)) dX4_oil_37 ⟨Nat.zero_le _, Nat.zero_le _⟩) hP hD hS hA [3] rfl rfl rfl (fun H locs hP hD hS => ?_)
      have hP : va_P (dC, dI) vwCl [(a_o, .inr (4, [.ref a_o_text, .ref a_o_tunes, .ref a_o_present, .ref a_o_ahead, .ref a_o_images, .ref a_o_kept, .ref a_o_order, .ref a_o_told, .ref a_o_draft, .long o_trace])), (a_o_present, .inr (3, [.int o_present_round, .int o_present_fell, .int o_present_ills, .ref a_o_present_skills, .ref a_o_present_places, .ref a_o_present_stores, .ref a_o_present_lacked, .ref a_o_present_helpers, .ref a_o_present_favours, .ref a_o_present_wheel, .ref a_o_present_works])), (a_o_present_wheel, .inl (cI, 6, .inl o_present_wheel)), (a_o_told, .inr (1, [.int o_told_trades, .int o_told_people, .ref a_o_told_needs, .ref a_o_told_yields, .ref a_o_told_skips, .ref a_o_told_skills, .ref a_o_told_places, .ref a_o_told_wheel, .int o_told_tradesEnded]))] H := hP
      have hD : va_D A [(a_o, .inr (4, [.ref a_o_text, .ref a_o_tunes, .ref a_o_present, .ref a_o_ahead, .ref a_o_images, .ref a_o_kept, .ref a_o_order, .ref a_o_told, .ref a_o_draft, .long o_trace])), (a_o_present, .inr (3, [.int o_present_round, .int o_present_fell, .int o_present_ills, .ref a_o_present_skills, .ref a_o_present_places, .ref a_o_present_stores, .ref a_o_present_lacked, .ref a_o_present_helpers, .ref a_o_present_favours, .ref a_o_present_wheel, .ref a_o_present_works])), (a_o_present_wheel, .inl (cI, 6, .inl o_present_wheel)), (a_o_told, .inr (1, [.int o_told_trades, .int o_told_people, .ref a_o_told_needs, .ref a_o_told_yields, .ref a_o_told_skips, .ref a_o_told_skills, .ref a_o_told_places, .ref a_o_told_wheel, .int o_told_tradesEnded]))] := hD
      obtain ⟨o_present_wheel_5, hc, hf⟩ := pb1 hf
      refine gCv (va_runS (As := [.ref a_o_present_wheel, .int i1, .int r_4]) (rest := []) hF (kX4_swap l dC dI Z cC cI cZ cW a_o_present_wheel _ o_present_wheel i1 r_4 N o_present_wheel_5 hc) (cwS 3 hts gX4_oil_X4_swap rfl rfl rfl (by decide +kernel) ⟨Nat.le_of_ble_eq_true rfl, Nat.le_of_ble_eq_true rfl⟩) (gPS (wc := [(a_o_present_wheel, .inl (cI, 6, .inl o_present_wheel))]) hK hN hA hS hP hD [2] rfl rfl) rfl rfl hl.1 rfl (lv_room (Nat.le_of_ble_eq_true rfl)) dX4_oil_40 ⟨Nat.zero_le _, Nat.zero_le _⟩) hP hD hS hA [2] rfl rfl rfl (fun H locs hP hD hS => ?_)
      have hP : va_P (dC, dI) vwCl [(a_o, .inr (4, [.ref a_o_text, .ref a_o_tunes, .ref a_o_present, .ref a_o_ahead, .ref a_o_images, .ref a_o_kept, .ref a_o_order, .ref a_o_told, .ref a_o_draft, .long o_trace])), (a_o_present, .inr (3, [.int o_present_round, .int o_present_fell, .int o_present_ills, .ref a_o_present_skills, .ref a_o_present_places, .ref a_o_present_stores, .ref a_o_present_lacked, .ref a_o_present_helpers, .ref a_o_present_favours, .ref a_o_present_wheel, .ref a_o_present_works])), (a_o_present_wheel, .inl (cI, 6, .inl o_present_wheel_5)), (a_o_told, .inr (1, [.int o_told_trades, .int o_told_people, .ref a_o_told_needs, .ref a_o_told_yields, .ref a_o_told_skips, .ref a_o_told_skills, .ref a_o_told_places, .ref a_o_told_wheel, .int o_told_tradesEnded]))] H := hP
      have hD : va_D A [(a_o, .inr (4, [.ref a_o_text, .ref a_o_tunes, .ref a_o_present, .ref a_o_ahead, .ref a_o_images, .ref a_o_kept, .ref a_o_order, .ref a_o_told, .ref a_o_draft, .long o_trace])), (a_o_present, .inr (3, [.int o_present_round, .int o_present_fell, .int o_present_ills, .ref a_o_present_skills, .ref a_o_present_places, .ref a_o_present_stores, .ref a_o_present_lacked, .ref a_o_present_helpers, .ref a_o_present_favours, .ref a_o_present_wheel, .ref a_o_present_works])), (a_o_present_wheel, .inl (cI, 6, .inl o_present_wheel_5)), (a_o_told, .inr (1, [.int o_told_trades, .int o_told_people, .ref a_o_told_needs, .ref a_o_told_yields, .ref a_o_told_skips, .ref a_o_told_skills, .ref a_o_told_places, .ref a_o_told_wheel, .int o_told_tradesEnded]))] := hD
      refine lv_aload_n hx hb dX4_oil_43 rfl (lv_at hl 0 rfl) ?_
      refine va_get (D := (dC, dI)) (ci := 4) (v := .ref a_o_present) (C := RX4) (T := TX4) (N := 10) hx hb hts uX4_oil_X4 hown hK hP 0 rfl rfl 2 (by decide) (hts _ mX4_oil_2) (fun _ h9 => h9) rfl dX4_oil_44 ?_
      refine va_get (D := (dC, dI)) (ci := 3) (v := .ref a_o_present_wheel) (C := RX3) (T := TX3) (N := 11) hx hb hts uX4_oil_X3 hown hK hP 1 rfl rfl 9 (by decide) (hts _ mX4_oil_3) (fun _ h9 => h9) rfl dX4_oil_47 ?_
      refine lv_iload_n hx hb dX4_oil_50 rfl (lv_at hl 1 rfl) ?_
      obtain ⟨h_6, hf⟩ := pgd hf
      refine va_iald hx hb hK hP 2 1 rfl rfl h_6 dX4_oil_51 ?_
      have q0 := Option.some.inj hf
      obtain ⟨e0, q1⟩ := Prod.mk.inj q0
      subst e0
      subst q1
      exact gRi hx hb hr hlocks hP hS dX4_oil_52
    · have hf := pit hf c_3
      refine lv_bipush (v := (-2 : Int32)) hx hb dX4_oil_21 (by decide) ?_
      have q0 := Option.some.inj hf
      obtain ⟨e0, q1⟩ := Prod.mk.inj q0
      subst e0
      subst q1
      exact gRi hx hb hr hlocks hP hS dX4_oil_23
  · have hf := pit hf c_2
    refine lv_iconst (v := (-1 : Int32)) hx hb dX4_oil_8 (by decide) ?_
    have q0 := Option.some.inj hf
    obtain ⟨e0, q1⟩ := Prod.mk.inj q0
    subst e0
    subst q1
    exact gRi hx hb hr hlocks hP hS dX4_oil_9
abbrev rmX4_favours : Room := { frames := 3, cells := 0, slots := 0, locals := 65 }
set_option maxRecDepth 20000 in
theorem uX4_favours_X3 : ∀ w ∈ wsX30, w ∈ wsX4_favours := by decide +kernel
set_option maxRecDepth 20000 in
theorem uX4_favours_X4 : ∀ w ∈ wsX40, w ∈ wsX4_favours := by decide +kernel
set_option maxRecDepth 20000 in
theorem mX4_favours_0 : (Cond.fieldLink RX4 26 "TradeWheel" "present" "LTradeWheel$World;" : Cond) ∈ wsX4_favours := by decide +kernel
set_option maxRecDepth 20000 in
theorem mX4_favours_1 : (Cond.fieldLink RX4 170 "TradeWheel$World" "favours" "[I" : Cond) ∈ wsX4_favours := by decide +kernel
set_option maxHeartbeats 4000000 in
set_option maxRecDepth 100000 in
theorem kX4_favours (l : Launch) (dC : Nat → ClassId) (dI : Nat → Nat → Nat) (Z : gZ) (cC cI cZ cW : ClassId) (a_o a_o_text a_o_tunes a_o_present a_o_ahead a_o_images a_o_kept a_o_order a_o_told a_o_draft a_o_present_skills a_o_present_places a_o_present_stores a_o_present_lacked a_o_present_helpers a_o_present_favours a_o_present_wheel a_o_present_works a_o_told_needs a_o_told_yields a_o_told_skips a_o_told_skills a_o_told_places a_o_told_wheel : Nat) (sz : Nat) (o_trace : Int64) (o_present_round : Int32) (o_present_fell : Int32) (o_present_ills : Int32) (o_present_favours : Nat → Int32) (o_told_trades : Int32) (o_told_people : Int32) (o_told_tradesEnded : Int32) (i1 : Int32) (i2 : Int32) (N : Nat) (r' : Int32) (hf : fX4_favours N o_present_favours o_told_people  i1 i2 = some r') : Met l yX4_favours wsX4_favours rmX4_favours (va_Pc [.ref a_o, .int i1, .int i2] (gB (dC, dI) Z [(cC, .char), (cI, .int), (cZ, .boolean), (cW, .object RX3)] [(a_o, .inr (4, [.ref a_o_text, .ref a_o_tunes, .ref a_o_present, .ref a_o_ahead, .ref a_o_images, .ref a_o_kept, .ref a_o_order, .ref a_o_told, .ref a_o_draft, .long o_trace])), (a_o_present, .inr (3, [.int o_present_round, .int o_present_fell, .int o_present_ills, .ref a_o_present_skills, .ref a_o_present_places, .ref a_o_present_stores, .ref a_o_present_lacked, .ref a_o_present_helpers, .ref a_o_present_favours, .ref a_o_present_wheel, .ref a_o_present_works])), (a_o_present_favours, .inl (cI, 36, .inl o_present_favours)), (a_o_told, .inr (1, [.int o_told_trades, .int o_told_people, .ref a_o_told_needs, .ref a_o_told_yields, .ref a_o_told_skips, .ref a_o_told_skills, .ref a_o_told_places, .ref a_o_told_wheel, .int o_told_tradesEnded]))] sz)) (va_Qi (fun (r : Int32) (_ : Unit) => r = r') (gE (dC, dI) [(a_o, .inr (4, [.ref a_o_text, .ref a_o_tunes, .ref a_o_present, .ref a_o_ahead, .ref a_o_images, .ref a_o_kept, .ref a_o_order, .ref a_o_told, .ref a_o_draft, .long o_trace])), (a_o_present, .inr (3, [.int o_present_round, .int o_present_fell, .int o_present_ills, .ref a_o_present_skills, .ref a_o_present_places, .ref a_o_present_stores, .ref a_o_present_lacked, .ref a_o_present_helpers, .ref a_o_present_favours, .ref a_o_present_wheel, .ref a_o_present_works])), (a_o_present_favours, .inl (cI, 36, .inl o_present_favours)), (a_o_told, .inr (1, [.int o_told_trades, .int o_told_people, .ref a_o_told_needs, .ref a_o_told_yields, .ref a_o_told_skips, .ref a_o_told_skills, .ref a_o_told_places, .ref a_o_told_wheel, .int o_told_tradesEnded]))]) (va_A [(a_o, .inr (4, [.ref a_o_text, .ref a_o_tunes, .ref a_o_present, .ref a_o_ahead, .ref a_o_images, .ref a_o_kept, .ref a_o_order, .ref a_o_told, .ref a_o_draft, .long o_trace])), (a_o_present, .inr (3, [.int o_present_round, .int o_present_fell, .int o_present_ills, .ref a_o_present_skills, .ref a_o_present_places, .ref a_o_present_stores, .ref a_o_present_lacked, .ref a_o_present_helpers, .ref a_o_present_favours, .ref a_o_present_wheel, .ref a_o_present_works])), (a_o_present_favours, .inl (cI, 36, .inl o_present_favours)), (a_o_told, .inr (1, [.int o_told_trades, .int o_told_people, .ref a_o_told_needs, .ref a_o_told_yields, .ref a_o_told_skips, .ref a_o_told_skills, .ref a_o_told_places, .ref a_o_told_wheel, .int o_told_tradesEnded]))] sz)) 0 0 (va_A [(a_o, .inr (4, [.ref a_o_text, .ref a_o_tunes, .ref a_o_present, .ref a_o_ahead, .ref a_o_images, .ref a_o_kept, .ref a_o_order, .ref a_o_told, .ref a_o_draft, .long o_trace])), (a_o_present, .inr (3, [.int o_present_round, .int o_present_fell, .int o_present_ills, .ref a_o_present_skills, .ref a_o_present_places, .ref a_o_present_stores, .ref a_o_present_lacked, .ref a_o_present_helpers, .ref a_o_present_favours, .ref a_o_present_wheel, .ref a_o_present_works])), (a_o_present_favours, .inl (cI, 36, .inl o_present_favours)), (a_o_told, .inr (1, [.int o_told_trades, .int o_told_people, .ref a_o_told_needs, .ref a_o_told_yields, .ref a_o_told_skips, .ref a_o_told_skills, .ref a_o_told_places, .ref a_o_told_wheel, .int o_told_tradesEnded]))] sz) := by
  refine gMet (cc := cX4_favours) (maxL := 3) (ret := (some .int)) (Qc := fun A => va_Qi (fun (r : Int32) (_ : Unit) => r = r') (gE (dC, dI) [(a_o, .inr (4, [.ref a_o_text, .ref a_o_tunes, .ref a_o_present, .ref a_o_ahead, .ref a_o_images, .ref a_o_kept, .ref a_o_order, .ref a_o_told, .ref a_o_draft, .long o_trace])), (a_o_present, .inr (3, [.int o_present_round, .int o_present_fell, .int o_present_ills, .ref a_o_present_skills, .ref a_o_present_places, .ref a_o_present_stores, .ref a_o_present_lacked, .ref a_o_present_helpers, .ref a_o_present_favours, .ref a_o_present_wheel, .ref a_o_present_works])), (a_o_present_favours, .inl (cI, 36, .inl o_present_favours)), (a_o_told, .inr (1, [.int o_told_trades, .int o_told_people, .ref a_o_told_needs, .ref a_o_told_yields, .ref a_o_told_skips, .ref a_o_told_skills, .ref a_o_told_places, .ref a_o_told_wheel, .int o_told_tradesEnded]))]) A) (by decide) rfl (Nat.le_of_ble_eq_true rfl) ?_
  intro p e s m below meth c A ls hg0 _ hsz hP hD hS hl
  have hg0 : gX p s m _ meth c cX4_favours 3 (some .int) wsX4_favours RX4 (dC, dI) Z [(cC, .char), (cI, .int), (cZ, .boolean), (cW, .object RX3)] A := hg0
  obtain ⟨hx, hb, hr, hml, hown, hts, hlocks, hA, hK, hN⟩ := id hg0
  subst hsz
  have hF : CallFix p m c cX4_favours 3 s _ wsX4_favours RX4 := ⟨hx, hb, hml, hown, hts⟩
  have hl : lv_has ls 3 [(0, .ref a_o), (1, .int i1), (2, .int i2)] := hl
  unfold fX4_favours at hf
  refine lv_aload_n hx hb dX4_favours_0 rfl (lv_at hl 0 rfl) ?_
  refine lv_iload_n hx hb dX4_favours_1 rfl (lv_at hl 1 rfl) ?_
  refine lv_iload_n hx hb dX4_favours_2 rfl (lv_at hl 2 rfl) ?_
  obtain ⟨r_1, hc, hf⟩ := pb1 hf
  refine gCi (va_runV (As := [.int i1, .int i2]) (rest := []) hF (kX4_areTwo l dC dI Z cC cI cZ cW a_o a_o_text a_o_tunes a_o_present a_o_ahead a_o_images a_o_kept a_o_order a_o_told a_o_draft a_o_told_needs a_o_told_yields a_o_told_skips a_o_told_skills a_o_told_places a_o_told_wheel _ o_trace o_told_trades o_told_people o_told_tradesEnded i1 i2 N r_1 hc) (cwV 2 hts gX4_favours_X4_areTwo rfl rfl rfl (by decide +kernel) ⟨Nat.le_of_ble_eq_true rfl, Nat.le_of_ble_eq_true rfl⟩) (gPV (wc := [(a_o, .inr (4, [.ref a_o_text, .ref a_o_tunes, .ref a_o_present, .ref a_o_ahead, .ref a_o_images, .ref a_o_kept, .ref a_o_order, .ref a_o_told, .ref a_o_draft, .long o_trace])), (a_o_told, .inr (1, [.int o_told_trades, .int o_told_people, .ref a_o_told_needs, .ref a_o_told_yields, .ref a_o_told_skips, .ref a_o_told_skills, .ref a_o_told_places, .ref a_o_told_wheel, .int o_told_tradesEnded]))]) hK hN hA hS hP hD [0, 3] rfl rfl (q0 := 0) (ci := 4) rfl rfl rfl) rfl rfl hl.1 rfl (lv_room (Nat.le_of_ble_eq_true rfl)) dX4_favours_3 ⟨Nat.zero_le _, Nat.zero_le _⟩) hP hD hS hA [0, 3] rfl rfl rfl (fun H locs hP hD hS => ?_)
  have hP : va_P (dC, dI) vwCl [(a_o, .inr (4, [.ref a_o_text, .ref a_o_tunes, .ref a_o_present, .ref a_o_ahead, .ref a_o_images, .ref a_o_kept, .ref a_o_order, .ref a_o_told, .ref a_o_draft, .long o_trace])), (a_o_present, .inr (3, [.int o_present_round, .int o_present_fell, .int o_present_ills, .ref a_o_present_skills, .ref a_o_present_places, .ref a_o_present_stores, .ref a_o_present_lacked, .ref a_o_present_helpers, .ref a_o_present_favours, .ref a_o_present_wheel, .ref a_o_present_works])), (a_o_present_favours, .inl (cI, 36, .inl o_present_favours)), (a_o_told, .inr (1, [.int o_told_trades, .int o_told_people, .ref a_o_told_needs, .ref a_o_told_yields, .ref a_o_told_skips, .ref a_o_told_skills, .ref a_o_told_places, .ref a_o_told_wheel, .int o_told_tradesEnded]))] H := hP
  have hD : va_D A [(a_o, .inr (4, [.ref a_o_text, .ref a_o_tunes, .ref a_o_present, .ref a_o_ahead, .ref a_o_images, .ref a_o_kept, .ref a_o_order, .ref a_o_told, .ref a_o_draft, .long o_trace])), (a_o_present, .inr (3, [.int o_present_round, .int o_present_fell, .int o_present_ills, .ref a_o_present_skills, .ref a_o_present_places, .ref a_o_present_stores, .ref a_o_present_lacked, .ref a_o_present_helpers, .ref a_o_present_favours, .ref a_o_present_wheel, .ref a_o_present_works])), (a_o_present_favours, .inl (cI, 36, .inl o_present_favours)), (a_o_told, .inr (1, [.int o_told_trades, .int o_told_people, .ref a_o_told_needs, .ref a_o_told_yields, .ref a_o_told_skips, .ref a_o_told_skills, .ref a_o_told_places, .ref a_o_told_wheel, .int o_told_tradesEnded]))] := hD
  refine lv_if_ne (tgt := 11) hx hb dX4_favours_6 (by decide) (fun c_2 => ?_) (fun c_2 => ?_)
  · have hf := pif hf c_2
    refine lv_aload_n hx hb dX4_favours_11 rfl (lv_at hl 0 rfl) ?_
    refine va_get (D := (dC, dI)) (ci := 4) (v := .ref a_o_present) (C := RX4) (T := TX4) (N := 10) hx hb hts uX4_favours_X4 hown hK hP 0 rfl rfl 2 (by decide) (hts _ mX4_favours_0) (fun _ h9 => h9) rfl dX4_favours_12 ?_
    refine va_get (D := (dC, dI)) (ci := 3) (v := .ref a_o_present_favours) (C := RX3) (T := TX3) (N := 11) hx hb hts uX4_favours_X3 hown hK hP 1 rfl rfl 8 (by decide) (hts _ mX4_favours_1) (fun _ h9 => h9) rfl dX4_favours_15 ?_
    refine lv_iload_n hx hb dX4_favours_18 rfl (lv_at hl 1 rfl) ?_
    refine lv_bipush (v := (6 : Int32)) hx hb dX4_favours_19 (by decide) ?_
    refine lv_imul hx hb dX4_favours_21 ?_
    refine lv_iload_n hx hb dX4_favours_22 rfl (lv_at hl 2 rfl) ?_
    refine lv_iadd hx hb dX4_favours_23 ?_
    obtain ⟨h_3, hf⟩ := pgd hf
    refine va_iald hx hb hK hP 2 1 rfl rfl h_3 dX4_favours_24 ?_
    have q0 := Option.some.inj hf
    subst q0
    exact gRi hx hb hr hlocks hP hS dX4_favours_25
  · have hf := pit hf c_2
    refine lv_iconst (v := (-1 : Int32)) hx hb dX4_favours_9 (by decide) ?_
    have q0 := Option.some.inj hf
    subst q0
    exact gRi hx hb hr hlocks hP hS dX4_favours_10
abbrev rmX4_sum : Room := { frames := 0, cells := 0, slots := 0, locals := 0 }
set_option maxHeartbeats 4000000 in
set_option maxRecDepth 100000 in
theorem wX4_sum_4 {p : Program} {l : Launch} {e : Env} {s : State} {m : MethodId} {args : Array Value} {below : List Frame} {meth : Method} {c : Code} {Q : State → Prop} {A : Nat → Prop} {dC : Nat → ClassId} {dI : Nat → Nat → Nat} {Z : gZ} {cC cI cZ cW : ClassId} (hg0 : gX p s m args meth c cX4_sum 4 (some .int) wsX4_sum RX4 (dC, dI) Z [(cC, .char), (cI, .int), (cZ, .boolean), (cW, .object RX3)] A) (a_x0 : Nat) (x0 : Nat → Int32) (l1 : Int32) (N : Nat) : ∀ (n : Nat) (l2 : Int32) (l3 : Int32) (l2' : Int32) (l3' : Int32), fX4_sum_4 N x0 l1 n l2 l3 = some (l2', l3') → ∀ (H : Heap) (locs : List Loc) (ls : Array Slot), va_P (dC, dI) vwCl [(a_x0, .inl (cI, 6, .inl x0))] H → va_D A [(a_x0, .inl (cI, 6, .inl x0))] → va_S A s.heap H locs → lv_has ls 4 [(0, .ref a_x0), (1, .int l1), (2, .int l2), (3, .int l3)] → (∀ (H : Heap) (locs : List Loc) (ls : Array Slot), va_P (dC, dI) vwCl [(a_x0, .inl (cI, 6, .inl x0))] H → va_D A [(a_x0, .inl (cI, 6, .inl x0))] → va_S A s.heap H locs → lv_has ls 4 [(2, .int l2')] → W p l e (headSpec wsX4_sum rmX4_sum).room s m args below meth c H locs 0 0 Q (F0 m 21 ls [])) → W p l e (headSpec wsX4_sum rmX4_sum).room s m args below meth c H locs 0 0 Q (F0 m 4 ls []) := by
  obtain ⟨hx, hb, hr, hml, hown, hts, hlocks, hA, hK, hN⟩ := id hg0
  have hF : CallFix p m c cX4_sum 4 s args wsX4_sum RX4 := ⟨hx, hb, hml, hown, hts⟩
  intro n
  induction n with
  | zero =>
    intro l2 l3 l2' l3' hf
    have hf := fX4_sum_4_0.symm.trans hf
    cases hf
  | succ n ih =>
    intro l2 l3 l2' l3' hf H locs ls hP hD hS hl kx
    have hf := fX4_sum_4_s.symm.trans hf
    refine lv_iload_n hx hb dX4_sum_4 rfl (lv_at hl 3 rfl) ?_
    refine lv_iload_n hx hb dX4_sum_5 rfl (lv_at hl 1 rfl) ?_
    refine lv_icmp_ge (tgt := 21) hx hb dX4_sum_6 (by decide) (fun c_1 => ?_) (fun c_1 => ?_)
    · have hf := pit hf c_1
      have q0 := Option.some.inj hf
      obtain ⟨e0, q1⟩ := Prod.mk.inj q0
      subst e0
      subst q1
      exact kx _ _ _ hP hD hS (lv_sub hl [2] rfl)
    · have hf := pif hf c_1
      refine lv_iload_n hx hb dX4_sum_9 rfl (lv_at hl 2 rfl) ?_
      refine lv_aload_n hx hb dX4_sum_10 rfl (lv_at hl 0 rfl) ?_
      refine lv_iload_n hx hb dX4_sum_11 rfl (lv_at hl 3 rfl) ?_
      obtain ⟨h_2, hf⟩ := pgd hf
      refine va_iald hx hb hK hP 0 1 rfl rfl h_2 dX4_sum_12 ?_
      refine lv_iadd hx hb dX4_sum_13 ?_
      refine lv_istore_n (lv' := [(2, .int (l2 + (x0 l3.toNatClampNeg))), (0, .ref a_x0), (1, .int l1), (3, .int l3)]) hx hb dX4_sum_14 rfl hl (by decide) rfl (fun ls hl => ?_)
      refine lv_iinc (v := (l3 + 1)) (lv' := [(3, .int (l3 + 1)), (2, .int (l2 + (x0 l3.toNatClampNeg))), (0, .ref a_x0), (1, .int l1)]) hx hb dX4_sum_15 hl (k := 3) rfl rfl (by decide) rfl (fun ls hl => ?_)
      refine lv_goto (tgt := 4) hx hb dX4_sum_18 (by decide) ?_
      exact ih _ _ _ _ hf _ _ _ hP hD hS (lv_sub hl [2, 3, 1, 0] rfl) kx
set_option maxHeartbeats 4000000 in
set_option maxRecDepth 100000 in
theorem kX4_sum (l : Launch) (dC : Nat → ClassId) (dI : Nat → Nat → Nat) (Z : gZ) (cC cI cZ cW : ClassId) (a_x0 : Nat) (sz : Nat) (x0 : Nat → Int32) (i1 : Int32) (N : Nat) (r' : Int32) (hf : fX4_sum N x0  i1 = some r') : Met l yX4_sum wsX4_sum rmX4_sum (va_Pc [.ref a_x0, .int i1] (gB (dC, dI) Z [(cC, .char), (cI, .int), (cZ, .boolean), (cW, .object RX3)] [(a_x0, .inl (cI, 6, .inl x0))] sz)) (va_Qi (fun (r : Int32) (_ : Unit) => r = r') (gE (dC, dI) [(a_x0, .inl (cI, 6, .inl x0))]) (va_A [(a_x0, .inl (cI, 6, .inl x0))] sz)) 0 0 (va_A [(a_x0, .inl (cI, 6, .inl x0))] sz) := by
  refine gMet (cc := cX4_sum) (maxL := 4) (ret := (some .int)) (Qc := fun A => va_Qi (fun (r : Int32) (_ : Unit) => r = r') (gE (dC, dI) [(a_x0, .inl (cI, 6, .inl x0))]) A) (by decide) rfl (Nat.le_of_ble_eq_true rfl) ?_
  intro p e s m below meth c A ls hg0 _ hsz hP hD hS hl
  have hg0 : gX p s m _ meth c cX4_sum 4 (some .int) wsX4_sum RX4 (dC, dI) Z [(cC, .char), (cI, .int), (cZ, .boolean), (cW, .object RX3)] A := hg0
  obtain ⟨hx, hb, hr, hml, hown, hts, hlocks, hA, hK, hN⟩ := id hg0
  subst hsz
  have hF : CallFix p m c cX4_sum 4 s _ wsX4_sum RX4 := ⟨hx, hb, hml, hown, hts⟩
  have hl : lv_has ls 4 [(0, .ref a_x0), (1, .int i1)] := hl
  unfold fX4_sum at hf
  refine lv_iconst (v := (0 : Int32)) hx hb dX4_sum_0 (by decide) ?_
  refine lv_istore_n (lv' := [(2, .int (0 : Int32)), (0, .ref a_x0), (1, .int i1)]) hx hb dX4_sum_1 rfl hl (by decide) rfl (fun ls hl => ?_)
  refine lv_iconst (v := (0 : Int32)) hx hb dX4_sum_2 (by decide) ?_
  refine lv_istore_n (lv' := [(3, .int (0 : Int32)), (2, .int (0 : Int32)), (0, .ref a_x0), (1, .int i1)]) hx hb dX4_sum_3 rfl hl (by decide) rfl (fun ls hl => ?_)
  obtain ⟨l2_1, l3_2, hc, hf⟩ := pb2 hf
  refine wX4_sum_4 hg0 a_x0 x0 i1 N N (0 : Int32) (0 : Int32) l2_1 l3_2 hc _ _ _ hP hD hS (lv_sub hl [2, 3, 1, 0] rfl) (fun H locs ls hP hD hS hl => ?_)
  refine lv_iload_n hx hb dX4_sum_21 rfl (lv_at hl 0 rfl) ?_
  have q0 := Option.some.inj hf
  subst q0
  exact gRi hx hb hr hlocks hP hS dX4_sum_22
abbrev rmX4_now : Room := { frames := 1, cells := 0, slots := 0, locals := 23 }
set_option maxRecDepth 20000 in
theorem uX4_now_X1 : ∀ w ∈ wsX10, w ∈ wsX4_now := by decide +kernel
set_option maxRecDepth 20000 in
theorem uX4_now_X3 : ∀ w ∈ wsX30, w ∈ wsX4_now := by decide +kernel
set_option maxRecDepth 20000 in
theorem uX4_now_X4 : ∀ w ∈ wsX40, w ∈ wsX4_now := by decide +kernel
set_option maxRecDepth 20000 in
theorem mX4_now_0 : (Cond.fieldLink RX4 26 "TradeWheel" "present" "LTradeWheel$World;" : Cond) ∈ wsX4_now := by decide +kernel
set_option maxRecDepth 20000 in
theorem mX4_now_1 : (Cond.fieldLink RX4 141 "TradeWheel$World" "round" "I" : Cond) ∈ wsX4_now := by decide +kernel
set_option maxRecDepth 20000 in
theorem mX4_now_2 : (Cond.fieldLink RX4 99 "TradeWheel$World" "lacked" "[I" : Cond) ∈ wsX4_now := by decide +kernel
set_option maxRecDepth 20000 in
theorem mX4_now_3 : (Cond.fieldLink RX4 48 "TradeWheel" "told" "LTradeWheel$Told;" : Cond) ∈ wsX4_now := by decide +kernel
set_option maxRecDepth 20000 in
theorem mX4_now_4 : (Cond.fieldLink RX4 144 "TradeWheel$Told" "trades" "I" : Cond) ∈ wsX4_now := by decide +kernel
set_option maxRecDepth 20000 in
theorem mX4_now_5 : (Cond.fieldLink RX4 177 "TradeWheel$World" "fell" "I" : Cond) ∈ wsX4_now := by decide +kernel
set_option maxRecDepth 20000 in
theorem mX4_now_6 : (Cond.fieldLink RX4 96 "TradeWheel$World" "stores" "[I" : Cond) ∈ wsX4_now := by decide +kernel
set_option maxHeartbeats 4000000 in
set_option maxRecDepth 100000 in
theorem kX4_now (l : Launch) (dC : Nat → ClassId) (dI : Nat → Nat → Nat) (Z : gZ) (cC cI cZ cW : ClassId) (a_o a_o_text a_o_tunes a_o_present a_o_ahead a_o_images a_o_kept a_o_order a_o_told a_o_draft a_o_present_skills a_o_present_places a_o_present_stores a_o_present_lacked a_o_present_helpers a_o_present_favours a_o_present_wheel a_o_present_works a_o_told_needs a_o_told_yields a_o_told_skips a_o_told_skills a_o_told_places a_o_told_wheel : Nat) (sz : Nat) (o_trace : Int64) (o_present_round : Int32) (o_present_fell : Int32) (o_present_ills : Int32) (o_present_stores : Nat → Int32) (o_present_lacked : Nat → Int32) (o_told_trades : Int32) (o_told_people : Int32) (o_told_tradesEnded : Int32) (i1 : Int32) (N : Nat) (r' : Int32) (hf : fX4_now N o_present_round o_present_fell o_present_stores o_present_lacked o_told_trades  i1 = some r') : Met l yX4_now wsX4_now rmX4_now (va_Pc [.ref a_o, .int i1] (gB (dC, dI) Z [(cC, .char), (cI, .int), (cZ, .boolean), (cW, .object RX3)] [(a_o, .inr (4, [.ref a_o_text, .ref a_o_tunes, .ref a_o_present, .ref a_o_ahead, .ref a_o_images, .ref a_o_kept, .ref a_o_order, .ref a_o_told, .ref a_o_draft, .long o_trace])), (a_o_present, .inr (3, [.int o_present_round, .int o_present_fell, .int o_present_ills, .ref a_o_present_skills, .ref a_o_present_places, .ref a_o_present_stores, .ref a_o_present_lacked, .ref a_o_present_helpers, .ref a_o_present_favours, .ref a_o_present_wheel, .ref a_o_present_works])), (a_o_present_stores, .inl (cI, 6, .inl o_present_stores)), (a_o_present_lacked, .inl (cI, 6, .inl o_present_lacked)), (a_o_told, .inr (1, [.int o_told_trades, .int o_told_people, .ref a_o_told_needs, .ref a_o_told_yields, .ref a_o_told_skips, .ref a_o_told_skills, .ref a_o_told_places, .ref a_o_told_wheel, .int o_told_tradesEnded]))] sz)) (va_Qi (fun (r : Int32) (_ : Unit) => r = r') (gE (dC, dI) [(a_o, .inr (4, [.ref a_o_text, .ref a_o_tunes, .ref a_o_present, .ref a_o_ahead, .ref a_o_images, .ref a_o_kept, .ref a_o_order, .ref a_o_told, .ref a_o_draft, .long o_trace])), (a_o_present, .inr (3, [.int o_present_round, .int o_present_fell, .int o_present_ills, .ref a_o_present_skills, .ref a_o_present_places, .ref a_o_present_stores, .ref a_o_present_lacked, .ref a_o_present_helpers, .ref a_o_present_favours, .ref a_o_present_wheel, .ref a_o_present_works])), (a_o_present_stores, .inl (cI, 6, .inl o_present_stores)), (a_o_present_lacked, .inl (cI, 6, .inl o_present_lacked)), (a_o_told, .inr (1, [.int o_told_trades, .int o_told_people, .ref a_o_told_needs, .ref a_o_told_yields, .ref a_o_told_skips, .ref a_o_told_skills, .ref a_o_told_places, .ref a_o_told_wheel, .int o_told_tradesEnded]))]) (va_A [(a_o, .inr (4, [.ref a_o_text, .ref a_o_tunes, .ref a_o_present, .ref a_o_ahead, .ref a_o_images, .ref a_o_kept, .ref a_o_order, .ref a_o_told, .ref a_o_draft, .long o_trace])), (a_o_present, .inr (3, [.int o_present_round, .int o_present_fell, .int o_present_ills, .ref a_o_present_skills, .ref a_o_present_places, .ref a_o_present_stores, .ref a_o_present_lacked, .ref a_o_present_helpers, .ref a_o_present_favours, .ref a_o_present_wheel, .ref a_o_present_works])), (a_o_present_stores, .inl (cI, 6, .inl o_present_stores)), (a_o_present_lacked, .inl (cI, 6, .inl o_present_lacked)), (a_o_told, .inr (1, [.int o_told_trades, .int o_told_people, .ref a_o_told_needs, .ref a_o_told_yields, .ref a_o_told_skips, .ref a_o_told_skills, .ref a_o_told_places, .ref a_o_told_wheel, .int o_told_tradesEnded]))] sz)) 0 0 (va_A [(a_o, .inr (4, [.ref a_o_text, .ref a_o_tunes, .ref a_o_present, .ref a_o_ahead, .ref a_o_images, .ref a_o_kept, .ref a_o_order, .ref a_o_told, .ref a_o_draft, .long o_trace])), (a_o_present, .inr (3, [.int o_present_round, .int o_present_fell, .int o_present_ills, .ref a_o_present_skills, .ref a_o_present_places, .ref a_o_present_stores, .ref a_o_present_lacked, .ref a_o_present_helpers, .ref a_o_present_favours, .ref a_o_present_wheel, .ref a_o_present_works])), (a_o_present_stores, .inl (cI, 6, .inl o_present_stores)), (a_o_present_lacked, .inl (cI, 6, .inl o_present_lacked)), (a_o_told, .inr (1, [.int o_told_trades, .int o_told_people, .ref a_o_told_needs, .ref a_o_told_yields, .ref a_o_told_skips, .ref a_o_told_skills, .ref a_o_told_places, .ref a_o_told_wheel, .int o_told_tradesEnded]))] sz) := by
  refine gMet (cc := cX4_now) (maxL := 2) (ret := (some .int)) (Qc := fun A => va_Qi (fun (r : Int32) (_ : Unit) => r = r') (gE (dC, dI) [(a_o, .inr (4, [.ref a_o_text, .ref a_o_tunes, .ref a_o_present, .ref a_o_ahead, .ref a_o_images, .ref a_o_kept, .ref a_o_order, .ref a_o_told, .ref a_o_draft, .long o_trace])), (a_o_present, .inr (3, [.int o_present_round, .int o_present_fell, .int o_present_ills, .ref a_o_present_skills, .ref a_o_present_places, .ref a_o_present_stores, .ref a_o_present_lacked, .ref a_o_present_helpers, .ref a_o_present_favours, .ref a_o_present_wheel, .ref a_o_present_works])), (a_o_present_stores, .inl (cI, 6, .inl o_present_stores)), (a_o_present_lacked, .inl (cI, 6, .inl o_present_lacked)), (a_o_told, .inr (1, [.int o_told_trades, .int o_told_people, .ref a_o_told_needs, .ref a_o_told_yields, .ref a_o_told_skips, .ref a_o_told_skills, .ref a_o_told_places, .ref a_o_told_wheel, .int o_told_tradesEnded]))]) A) (by decide) rfl (Nat.le_of_ble_eq_true rfl) ?_
  intro p e s m below meth c A ls hg0 _ hsz hP hD hS hl
  have hg0 : gX p s m _ meth c cX4_now 2 (some .int) wsX4_now RX4 (dC, dI) Z [(cC, .char), (cI, .int), (cZ, .boolean), (cW, .object RX3)] A := hg0
  obtain ⟨hx, hb, hr, hml, hown, hts, hlocks, hA, hK, hN⟩ := id hg0
  subst hsz
  have hF : CallFix p m c cX4_now 2 s _ wsX4_now RX4 := ⟨hx, hb, hml, hown, hts⟩
  have hl : lv_has ls 2 [(0, .ref a_o), (1, .int i1)] := hl
  unfold fX4_now at hf
  refine lv_iload_n hx hb dX4_now_0 rfl (lv_at hl 1 rfl) ?_
  by_cases c_3 : i1 = (0 : Int32)
  · have hf := pit hf c_3
    refine gTab (off := 31) (tgt := 32) hx hb c_3 dX4_now_1 (by decide) (by decide) (by decide) (by decide) ?_
    refine lv_aload_n hx hb dX4_now_32 rfl (lv_at hl 0 rfl) ?_
    refine va_get (D := (dC, dI)) (ci := 4) (v := .ref a_o_present) (C := RX4) (T := TX4) (N := 10) hx hb hts uX4_now_X4 hown hK hP 0 rfl rfl 2 (by decide) (hts _ mX4_now_0) (fun _ h9 => h9) rfl dX4_now_33 ?_
    refine va_get (D := (dC, dI)) (ci := 3) (v := .int o_present_round) (C := RX3) (T := TX3) (N := 11) hx hb hts uX4_now_X3 hown hK hP 1 rfl rfl 0 (by decide) (hts _ mX4_now_1) (fun _ h9 => h9) rfl dX4_now_36 ?_
    have q0 := Option.some.inj hf
    subst q0
    exact gRi hx hb hr hlocks hP hS dX4_now_39
  · have hf := pif hf c_3
    by_cases c_4 : i1 = (1 : Int32)
    · have hf := pit hf c_4
      refine gTab (off := 39) (tgt := 40) hx hb c_4 dX4_now_1 (by decide) (by decide) (by decide) (by decide) ?_
      refine lv_aload_n hx hb dX4_now_40 rfl (lv_at hl 0 rfl) ?_
      refine va_get (D := (dC, dI)) (ci := 4) (v := .ref a_o_present) (C := RX4) (T := TX4) (N := 10) hx hb hts uX4_now_X4 hown hK hP 0 rfl rfl 2 (by decide) (hts _ mX4_now_0) (fun _ h9 => h9) rfl dX4_now_41 ?_
      refine va_get (D := (dC, dI)) (ci := 3) (v := .ref a_o_present_lacked) (C := RX3) (T := TX3) (N := 11) hx hb hts uX4_now_X3 hown hK hP 1 rfl rfl 6 (by decide) (hts _ mX4_now_2) (fun _ h9 => h9) rfl dX4_now_44 ?_
      refine lv_aload_n hx hb dX4_now_47 rfl (lv_at hl 0 rfl) ?_
      refine va_get (D := (dC, dI)) (ci := 4) (v := .ref a_o_told) (C := RX4) (T := TX4) (N := 10) hx hb hts uX4_now_X4 hown hK hP 0 rfl rfl 7 (by decide) (hts _ mX4_now_3) (fun _ h9 => h9) rfl dX4_now_48 ?_
      refine va_get (D := (dC, dI)) (ci := 1) (v := .int o_told_trades) (C := RX1) (T := TX1) (N := 9) hx hb hts uX4_now_X1 hown hK hP 4 rfl rfl 0 (by decide) (hts _ mX4_now_4) (fun _ h9 => h9) rfl dX4_now_51 ?_
      obtain ⟨r_1, hc, hf⟩ := pb1 hf
      refine gCi (va_runS (As := [.ref a_o_present_lacked, .int o_told_trades]) (rest := []) hF (kX4_sum l dC dI Z cC cI cZ cW a_o_present_lacked _ o_present_lacked o_told_trades N r_1 hc) (cwS 2 hts gX4_now_X4_sum rfl rfl rfl (by decide +kernel) ⟨Nat.le_of_ble_eq_true rfl, Nat.le_of_ble_eq_true rfl⟩) (gPS (wc := [(a_o_present_lacked, .inl (cI, 6, .inl o_present_lacked))]) hK hN hA hS hP hD [3] rfl rfl) rfl rfl hl.1 rfl (lv_room (Nat.le_of_ble_eq_true rfl)) dX4_now_54 ⟨Nat.zero_le _, Nat.zero_le _⟩) hP hD hS hA [3] rfl rfl rfl (fun H locs hP hD hS => ?_)
      have hP : va_P (dC, dI) vwCl [(a_o, .inr (4, [.ref a_o_text, .ref a_o_tunes, .ref a_o_present, .ref a_o_ahead, .ref a_o_images, .ref a_o_kept, .ref a_o_order, .ref a_o_told, .ref a_o_draft, .long o_trace])), (a_o_present, .inr (3, [.int o_present_round, .int o_present_fell, .int o_present_ills, .ref a_o_present_skills, .ref a_o_present_places, .ref a_o_present_stores, .ref a_o_present_lacked, .ref a_o_present_helpers, .ref a_o_present_favours, .ref a_o_present_wheel, .ref a_o_present_works])), (a_o_present_stores, .inl (cI, 6, .inl o_present_stores)), (a_o_present_lacked, .inl (cI, 6, .inl o_present_lacked)), (a_o_told, .inr (1, [.int o_told_trades, .int o_told_people, .ref a_o_told_needs, .ref a_o_told_yields, .ref a_o_told_skips, .ref a_o_told_skills, .ref a_o_told_places, .ref a_o_told_wheel, .int o_told_tradesEnded]))] H := hP
      have hD : va_D A [(a_o, .inr (4, [.ref a_o_text, .ref a_o_tunes, .ref a_o_present, .ref a_o_ahead, .ref a_o_images, .ref a_o_kept, .ref a_o_order, .ref a_o_told, .ref a_o_draft, .long o_trace])), (a_o_present, .inr (3, [.int o_present_round, .int o_present_fell, .int o_present_ills, .ref a_o_present_skills, .ref a_o_present_places, .ref a_o_present_stores, .ref a_o_present_lacked, .ref a_o_present_helpers, .ref a_o_present_favours, .ref a_o_present_wheel, .ref a_o_present_works])), (a_o_present_stores, .inl (cI, 6, .inl o_present_stores)), (a_o_present_lacked, .inl (cI, 6, .inl o_present_lacked)), (a_o_told, .inr (1, [.int o_told_trades, .int o_told_people, .ref a_o_told_needs, .ref a_o_told_yields, .ref a_o_told_skips, .ref a_o_told_skills, .ref a_o_told_places, .ref a_o_told_wheel, .int o_told_tradesEnded]))] := hD
      have q0 := Option.some.inj hf
      subst q0
      exact gRi hx hb hr hlocks hP hS dX4_now_57
    · have hf := pif hf c_4
      by_cases c_5 : i1 = (2 : Int32)
      · have hf := pit hf c_5
        refine gTab (off := 57) (tgt := 58) hx hb c_5 dX4_now_1 (by decide) (by decide) (by decide) (by decide) ?_
        refine lv_aload_n hx hb dX4_now_58 rfl (lv_at hl 0 rfl) ?_
        refine va_get (D := (dC, dI)) (ci := 4) (v := .ref a_o_present) (C := RX4) (T := TX4) (N := 10) hx hb hts uX4_now_X4 hown hK hP 0 rfl rfl 2 (by decide) (hts _ mX4_now_0) (fun _ h9 => h9) rfl dX4_now_59 ?_
        refine va_get (D := (dC, dI)) (ci := 3) (v := .int o_present_fell) (C := RX3) (T := TX3) (N := 11) hx hb hts uX4_now_X3 hown hK hP 1 rfl rfl 1 (by decide) (hts _ mX4_now_5) (fun _ h9 => h9) rfl dX4_now_62 ?_
        have q0 := Option.some.inj hf
        subst q0
        exact gRi hx hb hr hlocks hP hS dX4_now_65
      · have hf := pif hf c_5
        by_cases c_6 : i1 = (3 : Int32)
        · have hf := pit hf c_6
          refine gTab (off := 65) (tgt := 66) hx hb c_6 dX4_now_1 (by decide) (by decide) (by decide) (by decide) ?_
          refine lv_aload_n hx hb dX4_now_66 rfl (lv_at hl 0 rfl) ?_
          refine va_get (D := (dC, dI)) (ci := 4) (v := .ref a_o_present) (C := RX4) (T := TX4) (N := 10) hx hb hts uX4_now_X4 hown hK hP 0 rfl rfl 2 (by decide) (hts _ mX4_now_0) (fun _ h9 => h9) rfl dX4_now_67 ?_
          refine va_get (D := (dC, dI)) (ci := 3) (v := .ref a_o_present_stores) (C := RX3) (T := TX3) (N := 11) hx hb hts uX4_now_X3 hown hK hP 1 rfl rfl 5 (by decide) (hts _ mX4_now_6) (fun _ h9 => h9) rfl dX4_now_70 ?_
          refine lv_aload_n hx hb dX4_now_73 rfl (lv_at hl 0 rfl) ?_
          refine va_get (D := (dC, dI)) (ci := 4) (v := .ref a_o_told) (C := RX4) (T := TX4) (N := 10) hx hb hts uX4_now_X4 hown hK hP 0 rfl rfl 7 (by decide) (hts _ mX4_now_3) (fun _ h9 => h9) rfl dX4_now_74 ?_
          refine va_get (D := (dC, dI)) (ci := 1) (v := .int o_told_trades) (C := RX1) (T := TX1) (N := 9) hx hb hts uX4_now_X1 hown hK hP 4 rfl rfl 0 (by decide) (hts _ mX4_now_4) (fun _ h9 => h9) rfl dX4_now_77 ?_
          obtain ⟨r_2, hc, hf⟩ := pb1 hf
          refine gCi (va_runS (As := [.ref a_o_present_stores, .int o_told_trades]) (rest := []) hF (kX4_sum l dC dI Z cC cI cZ cW a_o_present_stores _ o_present_stores o_told_trades N r_2 hc) (cwS 2 hts gX4_now_X4_sum rfl rfl rfl (by decide +kernel) ⟨Nat.le_of_ble_eq_true rfl, Nat.le_of_ble_eq_true rfl⟩) (gPS (wc := [(a_o_present_stores, .inl (cI, 6, .inl o_present_stores))]) hK hN hA hS hP hD [2] rfl rfl) rfl rfl hl.1 rfl (lv_room (Nat.le_of_ble_eq_true rfl)) dX4_now_80 ⟨Nat.zero_le _, Nat.zero_le _⟩) hP hD hS hA [2] rfl rfl rfl (fun H locs hP hD hS => ?_)
          have hP : va_P (dC, dI) vwCl [(a_o, .inr (4, [.ref a_o_text, .ref a_o_tunes, .ref a_o_present, .ref a_o_ahead, .ref a_o_images, .ref a_o_kept, .ref a_o_order, .ref a_o_told, .ref a_o_draft, .long o_trace])), (a_o_present, .inr (3, [.int o_present_round, .int o_present_fell, .int o_present_ills, .ref a_o_present_skills, .ref a_o_present_places, .ref a_o_present_stores, .ref a_o_present_lacked, .ref a_o_present_helpers, .ref a_o_present_favours, .ref a_o_present_wheel, .ref a_o_present_works])), (a_o_present_stores, .inl (cI, 6, .inl o_present_stores)), (a_o_present_lacked, .inl (cI, 6, .inl o_present_lacked)), (a_o_told, .inr (1, [.int o_told_trades, .int o_told_people, .ref a_o_told_needs, .ref a_o_told_yields, .ref a_o_told_skips, .ref a_o_told_skills, .ref a_o_told_places, .ref a_o_told_wheel, .int o_told_tradesEnded]))] H := hP
          have hD : va_D A [(a_o, .inr (4, [.ref a_o_text, .ref a_o_tunes, .ref a_o_present, .ref a_o_ahead, .ref a_o_images, .ref a_o_kept, .ref a_o_order, .ref a_o_told, .ref a_o_draft, .long o_trace])), (a_o_present, .inr (3, [.int o_present_round, .int o_present_fell, .int o_present_ills, .ref a_o_present_skills, .ref a_o_present_places, .ref a_o_present_stores, .ref a_o_present_lacked, .ref a_o_present_helpers, .ref a_o_present_favours, .ref a_o_present_wheel, .ref a_o_present_works])), (a_o_present_stores, .inl (cI, 6, .inl o_present_stores)), (a_o_present_lacked, .inl (cI, 6, .inl o_present_lacked)), (a_o_told, .inr (1, [.int o_told_trades, .int o_told_people, .ref a_o_told_needs, .ref a_o_told_yields, .ref a_o_told_skips, .ref a_o_told_skills, .ref a_o_told_places, .ref a_o_told_wheel, .int o_told_tradesEnded]))] := hD
          have q0 := Option.some.inj hf
          subst q0
          exact gRi hx hb hr hlocks hP hS dX4_now_83
        · have hf := pif hf c_6
          have c_3 := ti_ne (k := 0) c_3 (by decide)
          have c_4 := ti_ne (k := 1) c_4 (by decide)
          have c_5 := ti_ne (k := 2) c_5 (by decide)
          have c_6 := ti_ne (k := 3) c_6 (by decide)
          refine lv_tableOut (tgt := 84) hx hb dX4_now_1 (by omega) (by decide) ?_
          refine lv_iconst (v := (-1 : Int32)) hx hb dX4_now_84 (by decide) ?_
          have q0 := Option.some.inj hf
          subst q0
          exact gRi hx hb hr hlocks hP hS dX4_now_85
abbrev rmX4_isForetold : Room := { frames := 1, cells := 0, slots := 0, locals := 22 }
set_option maxHeartbeats 4000000 in
set_option maxRecDepth 100000 in
theorem kX4_isForetold (l : Launch) (dC : Nat → ClassId) (dI : Nat → Nat → Nat) (Z : gZ) (cC cI cZ cW : ClassId)  (sz : Nat)  (i0 : Int32) (i1 : Int32) (N : Nat) (r' : Int32) (hf : fX4_isForetold N   i0 i1 = some r') : Met l yX4_isForetold wsX4_isForetold rmX4_isForetold (va_Pc [.int i0, .int i1] (gB (dC, dI) Z [(cC, .char), (cI, .int), (cZ, .boolean), (cW, .object RX3)] [] sz)) (va_Qi (fun (r : Int32) (_ : Unit) => r = r') (gE (dC, dI) []) (va_A [] sz)) 0 0 (va_A [] sz) := by
  refine gMet (cc := cX4_isForetold) (maxL := 2) (ret := (some .boolean)) (Qc := fun A => va_Qi (fun (r : Int32) (_ : Unit) => r = r') (gE (dC, dI) []) A) (by decide) rfl (Nat.le_of_ble_eq_true rfl) ?_
  intro p e s m below meth c A ls hg0 _ hsz hP hD hS hl
  have hg0 : gX p s m _ meth c cX4_isForetold 2 (some .boolean) wsX4_isForetold RX4 (dC, dI) Z [(cC, .char), (cI, .int), (cZ, .boolean), (cW, .object RX3)] A := hg0
  obtain ⟨hx, hb, hr, hml, hown, hts, hlocks, hA, hK, hN⟩ := id hg0
  subst hsz
  have hF : CallFix p m c cX4_isForetold 2 s _ wsX4_isForetold RX4 := ⟨hx, hb, hml, hown, hts⟩
  have hl : lv_has ls 2 [(0, .int i0), (1, .int i1)] := hl
  unfold fX4_isForetold at hf
  refine lv_iload_n hx hb dX4_isForetold_0 rfl (lv_at hl 0 rfl) ?_
  refine lv_iconst (v := (1 : Int32)) hx hb dX4_isForetold_1 (by decide) ?_
  refine lv_bipush (v := (40 : Int32)) hx hb dX4_isForetold_2 (by decide) ?_
  obtain ⟨r_1, hc, hf⟩ := pb1 hf
  refine gCi (va_runS (As := [.int i0, .int (1 : Int32), .int (40 : Int32)]) (rest := []) hF (kX4_within l dC dI Z cC cI cZ cW  _  i0 (1 : Int32) (40 : Int32) N r_1 hc) (cwS 3 hts gX4_isForetold_X4_within rfl rfl rfl (by decide +kernel) ⟨Nat.le_of_ble_eq_true rfl, Nat.le_of_ble_eq_true rfl⟩) (gPS (wc := []) hK hN hA hS hP hD [] rfl rfl) rfl rfl hl.1 rfl (lv_room (Nat.le_of_ble_eq_true rfl)) dX4_isForetold_4 ⟨Nat.zero_le _, Nat.zero_le _⟩) hP hD hS hA [] rfl rfl rfl (fun H locs hP hD hS => ?_)
  refine lv_if_eq (tgt := 23) hx hb dX4_isForetold_7 (by decide) (fun c_2 => ?_) (fun c_2 => ?_)
  · have hf := pit hf c_2
    refine lv_iconst (v := (0 : Int32)) hx hb dX4_isForetold_23 (by decide) ?_
    have q0 := Option.some.inj hf
    subst q0
    exact gRz hx hb hr rfl hlocks hP hS dX4_isForetold_24
  · have hf := pif hf c_2
    refine lv_iload_n hx hb dX4_isForetold_10 rfl (lv_at hl 1 rfl) ?_
    refine lv_iconst (v := (0 : Int32)) hx hb dX4_isForetold_11 (by decide) ?_
    refine lv_iconst (v := (1 : Int32)) hx hb dX4_isForetold_12 (by decide) ?_
    obtain ⟨r_3, hc, hf⟩ := pb1 hf
    refine gCi (va_runS (As := [.int i1, .int (0 : Int32), .int (1 : Int32)]) (rest := []) hF (kX4_within l dC dI Z cC cI cZ cW  _  i1 (0 : Int32) (1 : Int32) N r_3 hc) (cwS 3 hts gX4_isForetold_X4_within rfl rfl rfl (by decide +kernel) ⟨Nat.le_of_ble_eq_true rfl, Nat.le_of_ble_eq_true rfl⟩) (gPS (wc := []) hK hN hA hS hP hD [] rfl rfl) rfl rfl hl.1 rfl (lv_room (Nat.le_of_ble_eq_true rfl)) dX4_isForetold_13 ⟨Nat.zero_le _, Nat.zero_le _⟩) hP hD hS hA [] rfl rfl rfl (fun H locs hP hD hS => ?_)
    refine lv_if_eq (tgt := 23) hx hb dX4_isForetold_16 (by decide) (fun c_4 => ?_) (fun c_4 => ?_)
    · have hf := pit hf c_4
      refine lv_iconst (v := (0 : Int32)) hx hb dX4_isForetold_23 (by decide) ?_
      have q0 := Option.some.inj hf
      subst q0
      exact gRz hx hb hr rfl hlocks hP hS dX4_isForetold_24
    · have hf := pif hf c_4
      refine lv_iconst (v := (1 : Int32)) hx hb dX4_isForetold_19 (by decide) ?_
      refine lv_goto (tgt := 24) hx hb dX4_isForetold_20 (by decide) ?_
      have q0 := Option.some.inj hf
      subst q0
      exact gRz hx hb hr rfl hlocks hP hS dX4_isForetold_24
abbrev rmX4_nextOrder : Room := { frames := 1, cells := 0, slots := 0, locals := 23 }
set_option maxRecDepth 20000 in
theorem uX4_nextOrder_X1 : ∀ w ∈ wsX10, w ∈ wsX4_nextOrder := by decide +kernel
set_option maxRecDepth 20000 in
theorem uX4_nextOrder_X4 : ∀ w ∈ wsX40, w ∈ wsX4_nextOrder := by decide +kernel
set_option maxRecDepth 20000 in
theorem mX4_nextOrder_0 : (Cond.fieldLink RX4 48 "TradeWheel" "told" "LTradeWheel$Told;" : Cond) ∈ wsX4_nextOrder := by decide +kernel
set_option maxRecDepth 20000 in
theorem mX4_nextOrder_1 : (Cond.fieldLink RX4 144 "TradeWheel$Told" "trades" "I" : Cond) ∈ wsX4_nextOrder := by decide +kernel
set_option maxRecDepth 20000 in
theorem mX4_nextOrder_2 : (Cond.fieldLink RX4 41 "TradeWheel" "order" "[I" : Cond) ∈ wsX4_nextOrder := by decide +kernel
set_option maxHeartbeats 4000000 in
set_option maxRecDepth 100000 in
theorem wX4_nextOrder_14 {p : Program} {l : Launch} {e : Env} {s : State} {m : MethodId} {args : Array Value} {below : List Frame} {meth : Method} {c : Code} {Q : State → Prop} {A : Nat → Prop} {dC : Nat → ClassId} {dI : Nat → Nat → Nat} {Z : gZ} {cC cI cZ cW : ClassId} (hg0 : gX p s m args meth c cX4_nextOrder 6 (some .boolean) wsX4_nextOrder RX4 (dC, dI) Z [(cC, .char), (cI, .int), (cZ, .boolean), (cW, .object RX3)] A) (a_o a_o_text a_o_tunes a_o_present a_o_ahead a_o_images a_o_kept a_o_order a_o_told a_o_draft a_o_told_needs a_o_told_yields a_o_told_skips a_o_told_skills a_o_told_places a_o_told_wheel : Nat) (o_trace : Int64) (o_order : Nat → Int32) (o_told_trades : Int32) (o_told_people : Int32) (o_told_tradesEnded : Int32) (l1 : Int32) (N : Nat) : ∀ (n : Nat) (l2 : Int32) (l2' : Int32), fX4_nextOrder_14 N o_order n l2 = some l2' → ∀ (H : Heap) (locs : List Loc) (ls : Array Slot), va_P (dC, dI) vwCl [(a_o, .inr (4, [.ref a_o_text, .ref a_o_tunes, .ref a_o_present, .ref a_o_ahead, .ref a_o_images, .ref a_o_kept, .ref a_o_order, .ref a_o_told, .ref a_o_draft, .long o_trace])), (a_o_order, .inl (cI, 6, .inl o_order)), (a_o_told, .inr (1, [.int o_told_trades, .int o_told_people, .ref a_o_told_needs, .ref a_o_told_yields, .ref a_o_told_skips, .ref a_o_told_skills, .ref a_o_told_places, .ref a_o_told_wheel, .int o_told_tradesEnded]))] H → va_D A [(a_o, .inr (4, [.ref a_o_text, .ref a_o_tunes, .ref a_o_present, .ref a_o_ahead, .ref a_o_images, .ref a_o_kept, .ref a_o_order, .ref a_o_told, .ref a_o_draft, .long o_trace])), (a_o_order, .inl (cI, 6, .inl o_order)), (a_o_told, .inr (1, [.int o_told_trades, .int o_told_people, .ref a_o_told_needs, .ref a_o_told_yields, .ref a_o_told_skips, .ref a_o_told_skills, .ref a_o_told_places, .ref a_o_told_wheel, .int o_told_tradesEnded]))] → va_S A s.heap H locs → lv_has ls 6 [(0, .ref a_o), (1, .int l1), (2, .int l2)] → (∀ (H : Heap) (locs : List Loc) (ls : Array Slot), va_P (dC, dI) vwCl [(a_o, .inr (4, [.ref a_o_text, .ref a_o_tunes, .ref a_o_present, .ref a_o_ahead, .ref a_o_images, .ref a_o_kept, .ref a_o_order, .ref a_o_told, .ref a_o_draft, .long o_trace])), (a_o_order, .inl (cI, 6, .inl o_order)), (a_o_told, .inr (1, [.int o_told_trades, .int o_told_people, .ref a_o_told_needs, .ref a_o_told_yields, .ref a_o_told_skips, .ref a_o_told_skills, .ref a_o_told_places, .ref a_o_told_wheel, .int o_told_tradesEnded]))] H → va_D A [(a_o, .inr (4, [.ref a_o_text, .ref a_o_tunes, .ref a_o_present, .ref a_o_ahead, .ref a_o_images, .ref a_o_kept, .ref a_o_order, .ref a_o_told, .ref a_o_draft, .long o_trace])), (a_o_order, .inl (cI, 6, .inl o_order)), (a_o_told, .inr (1, [.int o_told_trades, .int o_told_people, .ref a_o_told_needs, .ref a_o_told_yields, .ref a_o_told_skips, .ref a_o_told_skills, .ref a_o_told_places, .ref a_o_told_wheel, .int o_told_tradesEnded]))] → va_S A s.heap H locs → lv_has ls 6 [(0, .ref a_o), (1, .int l1), (2, .int l2')] → W p l e (headSpec wsX4_nextOrder rmX4_nextOrder).room s m args below meth c H locs 0 0 Q (F0 m 41 ls [])) → W p l e (headSpec wsX4_nextOrder rmX4_nextOrder).room s m args below meth c H locs 0 0 Q (F0 m 14 ls []) := by
  obtain ⟨hx, hb, hr, hml, hown, hts, hlocks, hA, hK, hN⟩ := id hg0
  have hF : CallFix p m c cX4_nextOrder 6 s args wsX4_nextOrder RX4 := ⟨hx, hb, hml, hown, hts⟩
  intro n
  induction n with
  | zero =>
    intro l2 l2' hf
    have hf := fX4_nextOrder_14_0.symm.trans hf
    cases hf
  | succ n ih =>
    intro l2 l2' hf H locs ls hP hD hS hl kx
    have hf := fX4_nextOrder_14_s.symm.trans hf
    refine lv_iload_n hx hb dX4_nextOrder_14 rfl (lv_at hl 2 rfl) ?_
    refine lv_if_lt (tgt := 41) hx hb dX4_nextOrder_15 (by decide) (fun c_1 => ?_) (fun c_1 => ?_)
    · have hf := pit hf c_1
      have q0 := Option.some.inj hf
      subst q0
      exact kx _ _ _ hP hD hS (lv_sub hl [0, 1, 2] rfl)
    · have hf := pif hf c_1
      refine lv_aload_n hx hb dX4_nextOrder_18 rfl (lv_at hl 0 rfl) ?_
      refine va_get (D := (dC, dI)) (ci := 4) (v := .ref a_o_order) (C := RX4) (T := TX4) (N := 10) hx hb hts uX4_nextOrder_X4 hown hK hP 0 rfl rfl 6 (by decide) (hts _ mX4_nextOrder_2) (fun _ h9 => h9) rfl dX4_nextOrder_19 ?_
      refine lv_iload_n hx hb dX4_nextOrder_22 rfl (lv_at hl 2 rfl) ?_
      obtain ⟨h_2, hf⟩ := pgd hf
      refine va_iald hx hb hK hP 1 1 rfl rfl h_2 dX4_nextOrder_23 ?_
      refine lv_aload_n hx hb dX4_nextOrder_24 rfl (lv_at hl 0 rfl) ?_
      refine va_get (D := (dC, dI)) (ci := 4) (v := .ref a_o_order) (C := RX4) (T := TX4) (N := 10) hx hb hts uX4_nextOrder_X4 hown hK hP 0 rfl rfl 6 (by decide) (hts _ mX4_nextOrder_2) (fun _ h9 => h9) rfl dX4_nextOrder_25 ?_
      refine lv_iload_n hx hb dX4_nextOrder_28 rfl (lv_at hl 2 rfl) ?_
      refine lv_iconst (v := (1 : Int32)) hx hb dX4_nextOrder_29 (by decide) ?_
      refine lv_iadd hx hb dX4_nextOrder_30 ?_
      obtain ⟨h_3, hf⟩ := pgd hf
      refine va_iald hx hb hK hP 1 1 rfl rfl h_3 dX4_nextOrder_31 ?_
      refine lv_icmp_le (tgt := 41) hx hb dX4_nextOrder_32 (by decide) (fun c_4 => ?_) (fun c_4 => ?_)
      · have hf := pit hf c_4
        have q0 := Option.some.inj hf
        subst q0
        exact kx _ _ _ hP hD hS (lv_sub hl [0, 1, 2] rfl)
      · have hf := pif hf c_4
        refine lv_iinc (v := (l2 + (-1 : Int32))) (lv' := [(2, .int (l2 + (-1 : Int32))), (0, .ref a_o), (1, .int l1)]) hx hb dX4_nextOrder_35 hl (k := 2) rfl rfl (by decide) rfl (fun ls hl => ?_)
        refine lv_goto (tgt := 14) hx hb dX4_nextOrder_38 (by decide) ?_
        exact ih _ _ hf _ _ _ hP hD hS (lv_sub hl [1, 2, 0] rfl) kx
set_option maxHeartbeats 4000000 in
set_option maxRecDepth 100000 in
theorem wX4_nextOrder_49 {p : Program} {l : Launch} {e : Env} {s : State} {m : MethodId} {args : Array Value} {below : List Frame} {meth : Method} {c : Code} {Q : State → Prop} {A : Nat → Prop} {dC : Nat → ClassId} {dI : Nat → Nat → Nat} {Z : gZ} {cC cI cZ cW : ClassId} (hg0 : gX p s m args meth c cX4_nextOrder 6 (some .boolean) wsX4_nextOrder RX4 (dC, dI) Z [(cC, .char), (cI, .int), (cZ, .boolean), (cW, .object RX3)] A) (a_o a_o_text a_o_tunes a_o_present a_o_ahead a_o_images a_o_kept a_o_order a_o_told a_o_draft a_o_told_needs a_o_told_yields a_o_told_skips a_o_told_skills a_o_told_places a_o_told_wheel : Nat) (o_trace : Int64) (o_order : Nat → Int32) (o_told_trades : Int32) (o_told_people : Int32) (o_told_tradesEnded : Int32) (l1 : Int32) (l2 : Int32) (N : Nat) : ∀ (n : Nat) (l3 : Int32) (l3' : Int32), fX4_nextOrder_49 N o_order l2 n l3 = some l3' → ∀ (H : Heap) (locs : List Loc) (ls : Array Slot), va_P (dC, dI) vwCl [(a_o, .inr (4, [.ref a_o_text, .ref a_o_tunes, .ref a_o_present, .ref a_o_ahead, .ref a_o_images, .ref a_o_kept, .ref a_o_order, .ref a_o_told, .ref a_o_draft, .long o_trace])), (a_o_order, .inl (cI, 6, .inl o_order)), (a_o_told, .inr (1, [.int o_told_trades, .int o_told_people, .ref a_o_told_needs, .ref a_o_told_yields, .ref a_o_told_skips, .ref a_o_told_skills, .ref a_o_told_places, .ref a_o_told_wheel, .int o_told_tradesEnded]))] H → va_D A [(a_o, .inr (4, [.ref a_o_text, .ref a_o_tunes, .ref a_o_present, .ref a_o_ahead, .ref a_o_images, .ref a_o_kept, .ref a_o_order, .ref a_o_told, .ref a_o_draft, .long o_trace])), (a_o_order, .inl (cI, 6, .inl o_order)), (a_o_told, .inr (1, [.int o_told_trades, .int o_told_people, .ref a_o_told_needs, .ref a_o_told_yields, .ref a_o_told_skips, .ref a_o_told_skills, .ref a_o_told_places, .ref a_o_told_wheel, .int o_told_tradesEnded]))] → va_S A s.heap H locs → lv_has ls 6 [(0, .ref a_o), (1, .int l1), (2, .int l2), (3, .int l3)] → (∀ (H : Heap) (locs : List Loc) (ls : Array Slot), va_P (dC, dI) vwCl [(a_o, .inr (4, [.ref a_o_text, .ref a_o_tunes, .ref a_o_present, .ref a_o_ahead, .ref a_o_images, .ref a_o_kept, .ref a_o_order, .ref a_o_told, .ref a_o_draft, .long o_trace])), (a_o_order, .inl (cI, 6, .inl o_order)), (a_o_told, .inr (1, [.int o_told_trades, .int o_told_people, .ref a_o_told_needs, .ref a_o_told_yields, .ref a_o_told_skips, .ref a_o_told_skills, .ref a_o_told_places, .ref a_o_told_wheel, .int o_told_tradesEnded]))] H → va_D A [(a_o, .inr (4, [.ref a_o_text, .ref a_o_tunes, .ref a_o_present, .ref a_o_ahead, .ref a_o_images, .ref a_o_kept, .ref a_o_order, .ref a_o_told, .ref a_o_draft, .long o_trace])), (a_o_order, .inl (cI, 6, .inl o_order)), (a_o_told, .inr (1, [.int o_told_trades, .int o_told_people, .ref a_o_told_needs, .ref a_o_told_yields, .ref a_o_told_skips, .ref a_o_told_skills, .ref a_o_told_places, .ref a_o_told_wheel, .int o_told_tradesEnded]))] → va_S A s.heap H locs → lv_has ls 6 [(0, .ref a_o), (1, .int l1), (2, .int l2), (3, .int l3')] → W p l e (headSpec wsX4_nextOrder rmX4_nextOrder).room s m args below meth c H locs 0 0 Q (F0 m 75 ls [])) → W p l e (headSpec wsX4_nextOrder rmX4_nextOrder).room s m args below meth c H locs 0 0 Q (F0 m 49 ls []) := by
  obtain ⟨hx, hb, hr, hml, hown, hts, hlocks, hA, hK, hN⟩ := id hg0
  have hF : CallFix p m c cX4_nextOrder 6 s args wsX4_nextOrder RX4 := ⟨hx, hb, hml, hown, hts⟩
  intro n
  induction n with
  | zero =>
    intro l3 l3' hf
    have hf := fX4_nextOrder_49_0.symm.trans hf
    cases hf
  | succ n ih =>
    intro l3 l3' hf H locs ls hP hD hS hl kx
    have hf := fX4_nextOrder_49_s.symm.trans hf
    refine lv_iload_n hx hb dX4_nextOrder_49 rfl (lv_at hl 3 rfl) ?_
    refine lv_iload_n hx hb dX4_nextOrder_50 rfl (lv_at hl 2 rfl) ?_
    refine lv_icmp_le (tgt := 75) hx hb dX4_nextOrder_51 (by decide) (fun c_1 => ?_) (fun c_1 => ?_)
    · have hf := pit hf c_1
      have q0 := Option.some.inj hf
      subst q0
      exact kx _ _ _ hP hD hS (lv_sub hl [0, 1, 2, 3] rfl)
    · have hf := pif hf c_1
      refine lv_aload_n hx hb dX4_nextOrder_54 rfl (lv_at hl 0 rfl) ?_
      refine va_get (D := (dC, dI)) (ci := 4) (v := .ref a_o_order) (C := RX4) (T := TX4) (N := 10) hx hb hts uX4_nextOrder_X4 hown hK hP 0 rfl rfl 6 (by decide) (hts _ mX4_nextOrder_2) (fun _ h9 => h9) rfl dX4_nextOrder_55 ?_
      refine lv_iload_n hx hb dX4_nextOrder_58 rfl (lv_at hl 3 rfl) ?_
      obtain ⟨h_2, hf⟩ := pgd hf
      refine va_iald hx hb hK hP 1 1 rfl rfl h_2 dX4_nextOrder_59 ?_
      refine lv_aload_n hx hb dX4_nextOrder_60 rfl (lv_at hl 0 rfl) ?_
      refine va_get (D := (dC, dI)) (ci := 4) (v := .ref a_o_order) (C := RX4) (T := TX4) (N := 10) hx hb hts uX4_nextOrder_X4 hown hK hP 0 rfl rfl 6 (by decide) (hts _ mX4_nextOrder_2) (fun _ h9 => h9) rfl dX4_nextOrder_61 ?_
      refine lv_iload_n hx hb dX4_nextOrder_64 rfl (lv_at hl 2 rfl) ?_
      obtain ⟨h_3, hf⟩ := pgd hf
      refine va_iald hx hb hK hP 1 1 rfl rfl h_3 dX4_nextOrder_65 ?_
      refine lv_icmp_ge (tgt := 75) hx hb dX4_nextOrder_66 (by decide) (fun c_4 => ?_) (fun c_4 => ?_)
      · have hf := pit hf c_4
        have q0 := Option.some.inj hf
        subst q0
        exact kx _ _ _ hP hD hS (lv_sub hl [0, 1, 2, 3] rfl)
      · have hf := pif hf c_4
        refine lv_iinc (v := (l3 + (-1 : Int32))) (lv' := [(3, .int (l3 + (-1 : Int32))), (0, .ref a_o), (1, .int l1), (2, .int l2)]) hx hb dX4_nextOrder_69 hl (k := 3) rfl rfl (by decide) rfl (fun ls hl => ?_)
        refine lv_goto (tgt := 49) hx hb dX4_nextOrder_72 (by decide) ?_
        exact ih _ _ hf _ _ _ hP hD hS (lv_sub hl [1, 2, 3, 0] rfl) kx
set_option maxHeartbeats 4000000 in
set_option maxRecDepth 100000 in
theorem wX4_nextOrder_92 {p : Program} {l : Launch} {e : Env} {s : State} {m : MethodId} {args : Array Value} {below : List Frame} {meth : Method} {c : Code} {Q : State → Prop} {A : Nat → Prop} {dC : Nat → ClassId} {dI : Nat → Nat → Nat} {Z : gZ} {cC cI cZ cW : ClassId} (hg0 : gX p s m args meth c cX4_nextOrder 6 (some .boolean) wsX4_nextOrder RX4 (dC, dI) Z [(cC, .char), (cI, .int), (cZ, .boolean), (cW, .object RX3)] A) (a_o a_o_text a_o_tunes a_o_present a_o_ahead a_o_images a_o_kept a_o_order a_o_told a_o_draft a_o_told_needs a_o_told_yields a_o_told_skips a_o_told_skills a_o_told_places a_o_told_wheel : Nat) (o_trace : Int64) (o_told_trades : Int32) (o_told_people : Int32) (o_told_tradesEnded : Int32)  (N : Nat) : ∀ (n : Nat) (o_order : Nat → Int32) (l4 : Int32) (l5 : Int32) (o_order' : Nat → Int32) (l4' : Int32) (l5' : Int32), fX4_nextOrder_92 N  n o_order l4 l5 = some (o_order', l4', l5') → ∀ (H : Heap) (locs : List Loc) (ls : Array Slot), va_P (dC, dI) vwCl [(a_o, .inr (4, [.ref a_o_text, .ref a_o_tunes, .ref a_o_present, .ref a_o_ahead, .ref a_o_images, .ref a_o_kept, .ref a_o_order, .ref a_o_told, .ref a_o_draft, .long o_trace])), (a_o_order, .inl (cI, 6, .inl o_order)), (a_o_told, .inr (1, [.int o_told_trades, .int o_told_people, .ref a_o_told_needs, .ref a_o_told_yields, .ref a_o_told_skips, .ref a_o_told_skills, .ref a_o_told_places, .ref a_o_told_wheel, .int o_told_tradesEnded]))] H → va_D A [(a_o, .inr (4, [.ref a_o_text, .ref a_o_tunes, .ref a_o_present, .ref a_o_ahead, .ref a_o_images, .ref a_o_kept, .ref a_o_order, .ref a_o_told, .ref a_o_draft, .long o_trace])), (a_o_order, .inl (cI, 6, .inl o_order)), (a_o_told, .inr (1, [.int o_told_trades, .int o_told_people, .ref a_o_told_needs, .ref a_o_told_yields, .ref a_o_told_skips, .ref a_o_told_skills, .ref a_o_told_places, .ref a_o_told_wheel, .int o_told_tradesEnded]))] → va_S A s.heap H locs → lv_has ls 6 [(0, .ref a_o), (4, .int l4), (5, .int l5)] → (∀ (H : Heap) (locs : List Loc) (ls : Array Slot), va_P (dC, dI) vwCl [(a_o, .inr (4, [.ref a_o_text, .ref a_o_tunes, .ref a_o_present, .ref a_o_ahead, .ref a_o_images, .ref a_o_kept, .ref a_o_order, .ref a_o_told, .ref a_o_draft, .long o_trace])), (a_o_order, .inl (cI, 6, .inl o_order')), (a_o_told, .inr (1, [.int o_told_trades, .int o_told_people, .ref a_o_told_needs, .ref a_o_told_yields, .ref a_o_told_skips, .ref a_o_told_skills, .ref a_o_told_places, .ref a_o_told_wheel, .int o_told_tradesEnded]))] H → va_D A [(a_o, .inr (4, [.ref a_o_text, .ref a_o_tunes, .ref a_o_present, .ref a_o_ahead, .ref a_o_images, .ref a_o_kept, .ref a_o_order, .ref a_o_told, .ref a_o_draft, .long o_trace])), (a_o_order, .inl (cI, 6, .inl o_order')), (a_o_told, .inr (1, [.int o_told_trades, .int o_told_people, .ref a_o_told_needs, .ref a_o_told_yields, .ref a_o_told_skips, .ref a_o_told_skills, .ref a_o_told_places, .ref a_o_told_wheel, .int o_told_tradesEnded]))] → va_S A s.heap H locs → lv_has ls 6 [] → W p l e (headSpec wsX4_nextOrder rmX4_nextOrder).room s m args below meth c H locs 0 0 Q (F0 m 119 ls [])) → W p l e (headSpec wsX4_nextOrder rmX4_nextOrder).room s m args below meth c H locs 0 0 Q (F0 m 92 ls []) := by
  obtain ⟨hx, hb, hr, hml, hown, hts, hlocks, hA, hK, hN⟩ := id hg0
  have hF : CallFix p m c cX4_nextOrder 6 s args wsX4_nextOrder RX4 := ⟨hx, hb, hml, hown, hts⟩
  intro n
  induction n with
  | zero =>
    intro o_order l4 l5 o_order' l4' l5' hf
    have hf := fX4_nextOrder_92_0.symm.trans hf
    cases hf
  | succ n ih =>
    intro o_order l4 l5 o_order' l4' l5' hf H locs ls hP hD hS hl kx
    have hf := fX4_nextOrder_92_s.symm.trans hf
    refine lv_iload hx hb dX4_nextOrder_92 (lv_at hl 1 rfl) ?_
    refine lv_iload hx hb dX4_nextOrder_94 (lv_at hl 2 rfl) ?_
    refine lv_icmp_ge (tgt := 119) hx hb dX4_nextOrder_96 (by decide) (fun c_1 => ?_) (fun c_1 => ?_)
    · have hf := pit hf c_1
      have q0 := Option.some.inj hf
      obtain ⟨e0, q1⟩ := Prod.mk.inj q0
      obtain ⟨e1, q2⟩ := Prod.mk.inj q1
      subst e0
      subst e1
      subst q2
      exact kx _ _ _ hP hD hS (lv_sub hl [] rfl)
    · have hf := pif hf c_1
      refine lv_aload_n hx hb dX4_nextOrder_99 rfl (lv_at hl 0 rfl) ?_
      refine va_get (D := (dC, dI)) (ci := 4) (v := .ref a_o_order) (C := RX4) (T := TX4) (N := 10) hx hb hts uX4_nextOrder_X4 hown hK hP 0 rfl rfl 6 (by decide) (hts _ mX4_nextOrder_2) (fun _ h9 => h9) rfl dX4_nextOrder_100 ?_
      refine lv_iload hx hb dX4_nextOrder_103 (lv_at hl 1 rfl) ?_
      refine lv_iload hx hb dX4_nextOrder_105 (lv_at hl 2 rfl) ?_
      obtain ⟨o_order_2, hc, hf⟩ := pb1 hf
      refine gCv (va_runS (As := [.ref a_o_order, .int l4, .int l5]) (rest := []) hF (kX4_swap l dC dI Z cC cI cZ cW a_o_order _ o_order l4 l5 N o_order_2 hc) (cwS 3 hts gX4_nextOrder_X4_swap rfl rfl rfl (by decide +kernel) ⟨Nat.le_of_ble_eq_true rfl, Nat.le_of_ble_eq_true rfl⟩) (gPS (wc := [(a_o_order, .inl (cI, 6, .inl o_order))]) hK hN hA hS hP hD [1] rfl rfl) rfl rfl hl.1 rfl (lv_room (Nat.le_of_ble_eq_true rfl)) dX4_nextOrder_107 ⟨Nat.zero_le _, Nat.zero_le _⟩) hP hD hS hA [1] rfl rfl rfl (fun H locs hP hD hS => ?_)
      have hP : va_P (dC, dI) vwCl [(a_o, .inr (4, [.ref a_o_text, .ref a_o_tunes, .ref a_o_present, .ref a_o_ahead, .ref a_o_images, .ref a_o_kept, .ref a_o_order, .ref a_o_told, .ref a_o_draft, .long o_trace])), (a_o_order, .inl (cI, 6, .inl o_order_2)), (a_o_told, .inr (1, [.int o_told_trades, .int o_told_people, .ref a_o_told_needs, .ref a_o_told_yields, .ref a_o_told_skips, .ref a_o_told_skills, .ref a_o_told_places, .ref a_o_told_wheel, .int o_told_tradesEnded]))] H := hP
      have hD : va_D A [(a_o, .inr (4, [.ref a_o_text, .ref a_o_tunes, .ref a_o_present, .ref a_o_ahead, .ref a_o_images, .ref a_o_kept, .ref a_o_order, .ref a_o_told, .ref a_o_draft, .long o_trace])), (a_o_order, .inl (cI, 6, .inl o_order_2)), (a_o_told, .inr (1, [.int o_told_trades, .int o_told_people, .ref a_o_told_needs, .ref a_o_told_yields, .ref a_o_told_skips, .ref a_o_told_skills, .ref a_o_told_places, .ref a_o_told_wheel, .int o_told_tradesEnded]))] := hD
      refine lv_iinc (v := (l4 + 1)) (lv' := [(4, .int (l4 + 1)), (0, .ref a_o), (5, .int l5)]) hx hb dX4_nextOrder_110 hl (k := 1) rfl rfl (by decide) rfl (fun ls hl => ?_)
      refine lv_iinc (v := (l5 + (-1 : Int32))) (lv' := [(5, .int (l5 + (-1 : Int32))), (4, .int (l4 + 1)), (0, .ref a_o)]) hx hb dX4_nextOrder_113 hl (k := 2) rfl rfl (by decide) rfl (fun ls hl => ?_)
      refine lv_goto (tgt := 92) hx hb dX4_nextOrder_116 (by decide) ?_
      exact ih _ _ _ _ _ _ hf _ _ _ hP hD hS (lv_sub hl [2, 1, 0] rfl) kx
set_option maxHeartbeats 4000000 in
set_option maxRecDepth 100000 in
theorem kX4_nextOrder (l : Launch) (dC : Nat → ClassId) (dI : Nat → Nat → Nat) (Z : gZ) (cC cI cZ cW : ClassId) (a_o a_o_text a_o_tunes a_o_present a_o_ahead a_o_images a_o_kept a_o_order a_o_told a_o_draft a_o_told_needs a_o_told_yields a_o_told_skips a_o_told_skills a_o_told_places a_o_told_wheel : Nat) (sz : Nat) (o_trace : Int64) (o_order : Nat → Int32) (o_told_trades : Int32) (o_told_people : Int32) (o_told_tradesEnded : Int32)  (N : Nat) (r' : Int32) (o_order' : Nat → Int32) (hf : fX4_nextOrder N o_order o_told_trades   = some (r', o_order')) : Met l yX4_nextOrder wsX4_nextOrder rmX4_nextOrder (va_Pc [.ref a_o] (gB (dC, dI) Z [(cC, .char), (cI, .int), (cZ, .boolean), (cW, .object RX3)] [(a_o, .inr (4, [.ref a_o_text, .ref a_o_tunes, .ref a_o_present, .ref a_o_ahead, .ref a_o_images, .ref a_o_kept, .ref a_o_order, .ref a_o_told, .ref a_o_draft, .long o_trace])), (a_o_order, .inl (cI, 6, .inl o_order)), (a_o_told, .inr (1, [.int o_told_trades, .int o_told_people, .ref a_o_told_needs, .ref a_o_told_yields, .ref a_o_told_skips, .ref a_o_told_skills, .ref a_o_told_places, .ref a_o_told_wheel, .int o_told_tradesEnded]))] sz)) (va_Qi (fun (r : Int32) (_ : Unit) => r = r') (gE (dC, dI) [(a_o, .inr (4, [.ref a_o_text, .ref a_o_tunes, .ref a_o_present, .ref a_o_ahead, .ref a_o_images, .ref a_o_kept, .ref a_o_order, .ref a_o_told, .ref a_o_draft, .long o_trace])), (a_o_order, .inl (cI, 6, .inl o_order')), (a_o_told, .inr (1, [.int o_told_trades, .int o_told_people, .ref a_o_told_needs, .ref a_o_told_yields, .ref a_o_told_skips, .ref a_o_told_skills, .ref a_o_told_places, .ref a_o_told_wheel, .int o_told_tradesEnded]))]) (va_A [(a_o, .inr (4, [.ref a_o_text, .ref a_o_tunes, .ref a_o_present, .ref a_o_ahead, .ref a_o_images, .ref a_o_kept, .ref a_o_order, .ref a_o_told, .ref a_o_draft, .long o_trace])), (a_o_order, .inl (cI, 6, .inl o_order)), (a_o_told, .inr (1, [.int o_told_trades, .int o_told_people, .ref a_o_told_needs, .ref a_o_told_yields, .ref a_o_told_skips, .ref a_o_told_skills, .ref a_o_told_places, .ref a_o_told_wheel, .int o_told_tradesEnded]))] sz)) 0 0 (va_A [(a_o, .inr (4, [.ref a_o_text, .ref a_o_tunes, .ref a_o_present, .ref a_o_ahead, .ref a_o_images, .ref a_o_kept, .ref a_o_order, .ref a_o_told, .ref a_o_draft, .long o_trace])), (a_o_order, .inl (cI, 6, .inl o_order)), (a_o_told, .inr (1, [.int o_told_trades, .int o_told_people, .ref a_o_told_needs, .ref a_o_told_yields, .ref a_o_told_skips, .ref a_o_told_skills, .ref a_o_told_places, .ref a_o_told_wheel, .int o_told_tradesEnded]))] sz) := by
  refine gMet (cc := cX4_nextOrder) (maxL := 6) (ret := (some .boolean)) (Qc := fun A => va_Qi (fun (r : Int32) (_ : Unit) => r = r') (gE (dC, dI) [(a_o, .inr (4, [.ref a_o_text, .ref a_o_tunes, .ref a_o_present, .ref a_o_ahead, .ref a_o_images, .ref a_o_kept, .ref a_o_order, .ref a_o_told, .ref a_o_draft, .long o_trace])), (a_o_order, .inl (cI, 6, .inl o_order')), (a_o_told, .inr (1, [.int o_told_trades, .int o_told_people, .ref a_o_told_needs, .ref a_o_told_yields, .ref a_o_told_skips, .ref a_o_told_skills, .ref a_o_told_places, .ref a_o_told_wheel, .int o_told_tradesEnded]))]) A) (by decide) rfl (Nat.le_of_ble_eq_true rfl) ?_
  intro p e s m below meth c A ls hg0 _ hsz hP hD hS hl
  have hg0 : gX p s m _ meth c cX4_nextOrder 6 (some .boolean) wsX4_nextOrder RX4 (dC, dI) Z [(cC, .char), (cI, .int), (cZ, .boolean), (cW, .object RX3)] A := hg0
  obtain ⟨hx, hb, hr, hml, hown, hts, hlocks, hA, hK, hN⟩ := id hg0
  subst hsz
  have hF : CallFix p m c cX4_nextOrder 6 s _ wsX4_nextOrder RX4 := ⟨hx, hb, hml, hown, hts⟩
  have hl : lv_has ls 6 [(0, .ref a_o)] := hl
  unfold fX4_nextOrder at hf
  refine lv_aload_n hx hb dX4_nextOrder_0 rfl (lv_at hl 0 rfl) ?_
  refine va_get (D := (dC, dI)) (ci := 4) (v := .ref a_o_told) (C := RX4) (T := TX4) (N := 10) hx hb hts uX4_nextOrder_X4 hown hK hP 0 rfl rfl 7 (by decide) (hts _ mX4_nextOrder_0) (fun _ h9 => h9) rfl dX4_nextOrder_1 ?_
  refine va_get (D := (dC, dI)) (ci := 1) (v := .int o_told_trades) (C := RX1) (T := TX1) (N := 9) hx hb hts uX4_nextOrder_X1 hown hK hP 2 rfl rfl 0 (by decide) (hts _ mX4_nextOrder_1) (fun _ h9 => h9) rfl dX4_nextOrder_4 ?_
  refine lv_iconst (v := (1 : Int32)) hx hb dX4_nextOrder_7 (by decide) ?_
  refine lv_isub hx hb dX4_nextOrder_8 ?_
  refine lv_istore_n (lv' := [(1, .int (o_told_trades - (1 : Int32))), (0, .ref a_o)]) hx hb dX4_nextOrder_9 rfl hl (by decide) rfl (fun ls hl => ?_)
  refine lv_iload_n hx hb dX4_nextOrder_10 rfl (lv_at hl 0 rfl) ?_
  refine lv_iconst (v := (1 : Int32)) hx hb dX4_nextOrder_11 (by decide) ?_
  refine lv_isub hx hb dX4_nextOrder_12 ?_
  refine lv_istore_n (lv' := [(2, .int ((o_told_trades - (1 : Int32)) - (1 : Int32))), (1, .int (o_told_trades - (1 : Int32))), (0, .ref a_o)]) hx hb dX4_nextOrder_13 rfl hl (by decide) rfl (fun ls hl => ?_)
  obtain ⟨l2_1, hc, hf⟩ := pb1 hf
  refine wX4_nextOrder_14 hg0 a_o a_o_text a_o_tunes a_o_present a_o_ahead a_o_images a_o_kept a_o_order a_o_told a_o_draft a_o_told_needs a_o_told_yields a_o_told_skips a_o_told_skills a_o_told_places a_o_told_wheel o_trace o_order o_told_trades o_told_people o_told_tradesEnded (o_told_trades - (1 : Int32)) N N ((o_told_trades - (1 : Int32)) - (1 : Int32)) l2_1 hc _ _ _ hP hD hS (lv_sub hl [2, 1, 0] rfl) (fun H locs ls hP hD hS hl => ?_)
  refine lv_iload_n hx hb dX4_nextOrder_41 rfl (lv_at hl 2 rfl) ?_
  refine lv_if_ge (tgt := 47) hx hb dX4_nextOrder_42 (by decide) (fun c_2 => ?_) (fun c_2 => ?_)
  · have hf := pit hf c_2
    refine lv_iload_n hx hb dX4_nextOrder_47 rfl (lv_at hl 1 rfl) ?_
    refine lv_istore_n (lv' := [(3, .int (o_told_trades - (1 : Int32))), (0, .ref a_o), (1, .int (o_told_trades - (1 : Int32))), (2, .int l2_1)]) hx hb dX4_nextOrder_48 rfl hl (by decide) rfl (fun ls hl => ?_)
    obtain ⟨l3_3, hc, hf⟩ := pb1 hf
    refine wX4_nextOrder_49 hg0 a_o a_o_text a_o_tunes a_o_present a_o_ahead a_o_images a_o_kept a_o_order a_o_told a_o_draft a_o_told_needs a_o_told_yields a_o_told_skips a_o_told_skills a_o_told_places a_o_told_wheel o_trace o_order o_told_trades o_told_people o_told_tradesEnded (o_told_trades - (1 : Int32)) l2_1 N N (o_told_trades - (1 : Int32)) l3_3 hc _ _ _ hP hD hS (lv_sub hl [1, 2, 3, 0] rfl) (fun H locs ls hP hD hS hl => ?_)
    refine lv_aload_n hx hb dX4_nextOrder_75 rfl (lv_at hl 0 rfl) ?_
    refine va_get (D := (dC, dI)) (ci := 4) (v := .ref a_o_order) (C := RX4) (T := TX4) (N := 10) hx hb hts uX4_nextOrder_X4 hown hK hP 0 rfl rfl 6 (by decide) (hts _ mX4_nextOrder_2) (fun _ h9 => h9) rfl dX4_nextOrder_76 ?_
    refine lv_iload_n hx hb dX4_nextOrder_79 rfl (lv_at hl 2 rfl) ?_
    refine lv_iload_n hx hb dX4_nextOrder_80 rfl (lv_at hl 3 rfl) ?_
    obtain ⟨o_order_4, hc, hf⟩ := pb1 hf
    refine gCv (va_runS (As := [.ref a_o_order, .int l2_1, .int l3_3]) (rest := []) hF (kX4_swap l dC dI Z cC cI cZ cW a_o_order _ o_order l2_1 l3_3 N o_order_4 hc) (cwS 3 hts gX4_nextOrder_X4_swap rfl rfl rfl (by decide +kernel) ⟨Nat.le_of_ble_eq_true rfl, Nat.le_of_ble_eq_true rfl⟩) (gPS (wc := [(a_o_order, .inl (cI, 6, .inl o_order))]) hK hN hA hS hP hD [1] rfl rfl) rfl rfl hl.1 rfl (lv_room (Nat.le_of_ble_eq_true rfl)) dX4_nextOrder_81 ⟨Nat.zero_le _, Nat.zero_le _⟩) hP hD hS hA [1] rfl rfl rfl (fun H locs hP hD hS => ?_)
    have hP : va_P (dC, dI) vwCl [(a_o, .inr (4, [.ref a_o_text, .ref a_o_tunes, .ref a_o_present, .ref a_o_ahead, .ref a_o_images, .ref a_o_kept, .ref a_o_order, .ref a_o_told, .ref a_o_draft, .long o_trace])), (a_o_order, .inl (cI, 6, .inl o_order_4)), (a_o_told, .inr (1, [.int o_told_trades, .int o_told_people, .ref a_o_told_needs, .ref a_o_told_yields, .ref a_o_told_skips, .ref a_o_told_skills, .ref a_o_told_places, .ref a_o_told_wheel, .int o_told_tradesEnded]))] H := hP
    have hD : va_D A [(a_o, .inr (4, [.ref a_o_text, .ref a_o_tunes, .ref a_o_present, .ref a_o_ahead, .ref a_o_images, .ref a_o_kept, .ref a_o_order, .ref a_o_told, .ref a_o_draft, .long o_trace])), (a_o_order, .inl (cI, 6, .inl o_order_4)), (a_o_told, .inr (1, [.int o_told_trades, .int o_told_people, .ref a_o_told_needs, .ref a_o_told_yields, .ref a_o_told_skips, .ref a_o_told_skills, .ref a_o_told_places, .ref a_o_told_wheel, .int o_told_tradesEnded]))] := hD
    refine lv_iload_n hx hb dX4_nextOrder_84 rfl (lv_at hl 2 rfl) ?_
    refine lv_iconst (v := (1 : Int32)) hx hb dX4_nextOrder_85 (by decide) ?_
    refine lv_iadd hx hb dX4_nextOrder_86 ?_
    refine lv_istore (lv' := [(4, .int (l2_1 + (1 : Int32))), (0, .ref a_o), (1, .int (o_told_trades - (1 : Int32))), (2, .int l2_1), (3, .int l3_3)]) hx hb dX4_nextOrder_87 hl (by decide) rfl (fun ls hl => ?_)
    refine lv_iload_n hx hb dX4_nextOrder_89 rfl (lv_at hl 2 rfl) ?_
    refine lv_istore (lv' := [(5, .int (o_told_trades - (1 : Int32))), (4, .int (l2_1 + (1 : Int32))), (0, .ref a_o), (1, .int (o_told_trades - (1 : Int32))), (2, .int l2_1), (3, .int l3_3)]) hx hb dX4_nextOrder_90 hl (by decide) rfl (fun ls hl => ?_)
    obtain ⟨o_order_5, l4_6, l5_7, hc, hf⟩ := pb3 hf
    refine wX4_nextOrder_92 hg0 a_o a_o_text a_o_tunes a_o_present a_o_ahead a_o_images a_o_kept a_o_order a_o_told a_o_draft a_o_told_needs a_o_told_yields a_o_told_skips a_o_told_skills a_o_told_places a_o_told_wheel o_trace o_told_trades o_told_people o_told_tradesEnded  N N o_order_4 (l2_1 + (1 : Int32)) (o_told_trades - (1 : Int32)) o_order_5 l4_6 l5_7 hc _ _ _ hP hD hS (lv_sub hl [2, 1, 0] rfl) (fun H locs ls hP hD hS hl => ?_)
    refine lv_iconst (v := (1 : Int32)) hx hb dX4_nextOrder_119 (by decide) ?_
    have q0 := Option.some.inj hf
    obtain ⟨e0, q1⟩ := Prod.mk.inj q0
    subst e0
    subst q1
    exact gRz hx hb hr rfl hlocks hP hS dX4_nextOrder_120
  · have hf := pif hf c_2
    refine lv_iconst (v := (0 : Int32)) hx hb dX4_nextOrder_45 (by decide) ?_
    have q0 := Option.some.inj hf
    obtain ⟨e0, q1⟩ := Prod.mk.inj q0
    subst e0
    subst q1
    exact gRz hx hb hr rfl hlocks hP hS dX4_nextOrder_46
abbrev rmX4_orderAsFigures : Room := { frames := 0, cells := 0, slots := 0, locals := 0 }
set_option maxRecDepth 20000 in
theorem uX4_orderAsFigures_X1 : ∀ w ∈ wsX10, w ∈ wsX4_orderAsFigures := by decide +kernel
set_option maxRecDepth 20000 in
theorem uX4_orderAsFigures_X4 : ∀ w ∈ wsX40, w ∈ wsX4_orderAsFigures := by decide +kernel
set_option maxRecDepth 20000 in
theorem mX4_orderAsFigures_0 : (Cond.fieldLink RX4 48 "TradeWheel" "told" "LTradeWheel$Told;" : Cond) ∈ wsX4_orderAsFigures := by decide +kernel
set_option maxRecDepth 20000 in
theorem mX4_orderAsFigures_1 : (Cond.fieldLink RX4 144 "TradeWheel$Told" "trades" "I" : Cond) ∈ wsX4_orderAsFigures := by decide +kernel
set_option maxRecDepth 20000 in
theorem mX4_orderAsFigures_2 : (Cond.fieldLink RX4 41 "TradeWheel" "order" "[I" : Cond) ∈ wsX4_orderAsFigures := by decide +kernel
set_option maxHeartbeats 4000000 in
set_option maxRecDepth 100000 in
theorem wX4_orderAsFigures_4 {p : Program} {l : Launch} {e : Env} {s : State} {m : MethodId} {args : Array Value} {below : List Frame} {meth : Method} {c : Code} {Q : State → Prop} {A : Nat → Prop} {dC : Nat → ClassId} {dI : Nat → Nat → Nat} {Z : gZ} {cC cI cZ cW : ClassId} (hg0 : gX p s m args meth c cX4_orderAsFigures 3 (some .int) wsX4_orderAsFigures RX4 (dC, dI) Z [(cC, .char), (cI, .int), (cZ, .boolean), (cW, .object RX3)] A) (a_o a_o_text a_o_tunes a_o_present a_o_ahead a_o_images a_o_kept a_o_order a_o_told a_o_draft a_o_told_needs a_o_told_yields a_o_told_skips a_o_told_skills a_o_told_places a_o_told_wheel : Nat) (o_trace : Int64) (o_order : Nat → Int32) (o_told_trades : Int32) (o_told_people : Int32) (o_told_tradesEnded : Int32)  (N : Nat) : ∀ (n : Nat) (l1 : Int32) (l2 : Int32) (l1' : Int32) (l2' : Int32), fX4_orderAsFigures_4 N o_order o_told_trades n l1 l2 = some (l1', l2') → ∀ (H : Heap) (locs : List Loc) (ls : Array Slot), va_P (dC, dI) vwCl [(a_o, .inr (4, [.ref a_o_text, .ref a_o_tunes, .ref a_o_present, .ref a_o_ahead, .ref a_o_images, .ref a_o_kept, .ref a_o_order, .ref a_o_told, .ref a_o_draft, .long o_trace])), (a_o_order, .inl (cI, 6, .inl o_order)), (a_o_told, .inr (1, [.int o_told_trades, .int o_told_people, .ref a_o_told_needs, .ref a_o_told_yields, .ref a_o_told_skips, .ref a_o_told_skills, .ref a_o_told_places, .ref a_o_told_wheel, .int o_told_tradesEnded]))] H → va_D A [(a_o, .inr (4, [.ref a_o_text, .ref a_o_tunes, .ref a_o_present, .ref a_o_ahead, .ref a_o_images, .ref a_o_kept, .ref a_o_order, .ref a_o_told, .ref a_o_draft, .long o_trace])), (a_o_order, .inl (cI, 6, .inl o_order)), (a_o_told, .inr (1, [.int o_told_trades, .int o_told_people, .ref a_o_told_needs, .ref a_o_told_yields, .ref a_o_told_skips, .ref a_o_told_skills, .ref a_o_told_places, .ref a_o_told_wheel, .int o_told_tradesEnded]))] → va_S A s.heap H locs → lv_has ls 3 [(0, .ref a_o), (1, .int l1), (2, .int l2)] → (∀ (H : Heap) (locs : List Loc) (ls : Array Slot), va_P (dC, dI) vwCl [(a_o, .inr (4, [.ref a_o_text, .ref a_o_tunes, .ref a_o_present, .ref a_o_ahead, .ref a_o_images, .ref a_o_kept, .ref a_o_order, .ref a_o_told, .ref a_o_draft, .long o_trace])), (a_o_order, .inl (cI, 6, .inl o_order)), (a_o_told, .inr (1, [.int o_told_trades, .int o_told_people, .ref a_o_told_needs, .ref a_o_told_yields, .ref a_o_told_skips, .ref a_o_told_skills, .ref a_o_told_places, .ref a_o_told_wheel, .int o_told_tradesEnded]))] H → va_D A [(a_o, .inr (4, [.ref a_o_text, .ref a_o_tunes, .ref a_o_present, .ref a_o_ahead, .ref a_o_images, .ref a_o_kept, .ref a_o_order, .ref a_o_told, .ref a_o_draft, .long o_trace])), (a_o_order, .inl (cI, 6, .inl o_order)), (a_o_told, .inr (1, [.int o_told_trades, .int o_told_people, .ref a_o_told_needs, .ref a_o_told_yields, .ref a_o_told_skips, .ref a_o_told_skills, .ref a_o_told_places, .ref a_o_told_wheel, .int o_told_tradesEnded]))] → va_S A s.heap H locs → lv_has ls 3 [(1, .int l1')] → W p l e (headSpec wsX4_orderAsFigures rmX4_orderAsFigures).room s m args below meth c H locs 0 0 Q (F0 m 33 ls [])) → W p l e (headSpec wsX4_orderAsFigures rmX4_orderAsFigures).room s m args below meth c H locs 0 0 Q (F0 m 4 ls []) := by
  obtain ⟨hx, hb, hr, hml, hown, hts, hlocks, hA, hK, hN⟩ := id hg0
  have hF : CallFix p m c cX4_orderAsFigures 3 s args wsX4_orderAsFigures RX4 := ⟨hx, hb, hml, hown, hts⟩
  intro n
  induction n with
  | zero =>
    intro l1 l2 l1' l2' hf
    have hf := fX4_orderAsFigures_4_0.symm.trans hf
    cases hf
  | succ n ih =>
    intro l1 l2 l1' l2' hf H locs ls hP hD hS hl kx
    have hf := fX4_orderAsFigures_4_s.symm.trans hf
    refine lv_iload_n hx hb dX4_orderAsFigures_4 rfl (lv_at hl 2 rfl) ?_
    refine lv_aload_n hx hb dX4_orderAsFigures_5 rfl (lv_at hl 0 rfl) ?_
    refine va_get (D := (dC, dI)) (ci := 4) (v := .ref a_o_told) (C := RX4) (T := TX4) (N := 10) hx hb hts uX4_orderAsFigures_X4 hown hK hP 0 rfl rfl 7 (by decide) (hts _ mX4_orderAsFigures_0) (fun _ h9 => h9) rfl dX4_orderAsFigures_6 ?_
    refine va_get (D := (dC, dI)) (ci := 1) (v := .int o_told_trades) (C := RX1) (T := TX1) (N := 9) hx hb hts uX4_orderAsFigures_X1 hown hK hP 2 rfl rfl 0 (by decide) (hts _ mX4_orderAsFigures_1) (fun _ h9 => h9) rfl dX4_orderAsFigures_9 ?_
    refine lv_icmp_ge (tgt := 33) hx hb dX4_orderAsFigures_12 (by decide) (fun c_1 => ?_) (fun c_1 => ?_)
    · have hf := pit hf c_1
      have q0 := Option.some.inj hf
      obtain ⟨e0, q1⟩ := Prod.mk.inj q0
      subst e0
      subst q1
      exact kx _ _ _ hP hD hS (lv_sub hl [1] rfl)
    · have hf := pif hf c_1
      refine lv_bipush (v := (10 : Int32)) hx hb dX4_orderAsFigures_15 (by decide) ?_
      refine lv_iload_n hx hb dX4_orderAsFigures_17 rfl (lv_at hl 1 rfl) ?_
      refine lv_imul hx hb dX4_orderAsFigures_18 ?_
      refine lv_aload_n hx hb dX4_orderAsFigures_19 rfl (lv_at hl 0 rfl) ?_
      refine va_get (D := (dC, dI)) (ci := 4) (v := .ref a_o_order) (C := RX4) (T := TX4) (N := 10) hx hb hts uX4_orderAsFigures_X4 hown hK hP 0 rfl rfl 6 (by decide) (hts _ mX4_orderAsFigures_2) (fun _ h9 => h9) rfl dX4_orderAsFigures_20 ?_
      refine lv_iload_n hx hb dX4_orderAsFigures_23 rfl (lv_at hl 2 rfl) ?_
      obtain ⟨h_2, hf⟩ := pgd hf
      refine va_iald hx hb hK hP 1 1 rfl rfl h_2 dX4_orderAsFigures_24 ?_
      refine lv_iadd hx hb dX4_orderAsFigures_25 ?_
      refine lv_istore_n (lv' := [(1, .int (((10 : Int32) * l1) + (o_order l2.toNatClampNeg))), (0, .ref a_o), (2, .int l2)]) hx hb dX4_orderAsFigures_26 rfl hl (by decide) rfl (fun ls hl => ?_)
      refine lv_iinc (v := (l2 + 1)) (lv' := [(2, .int (l2 + 1)), (1, .int (((10 : Int32) * l1) + (o_order l2.toNatClampNeg))), (0, .ref a_o)]) hx hb dX4_orderAsFigures_27 hl (k := 2) rfl rfl (by decide) rfl (fun ls hl => ?_)
      refine lv_goto (tgt := 4) hx hb dX4_orderAsFigures_30 (by decide) ?_
      exact ih _ _ _ _ hf _ _ _ hP hD hS (lv_sub hl [2, 1, 0] rfl) kx
set_option maxHeartbeats 4000000 in
set_option maxRecDepth 100000 in
theorem kX4_orderAsFigures (l : Launch) (dC : Nat → ClassId) (dI : Nat → Nat → Nat) (Z : gZ) (cC cI cZ cW : ClassId) (a_o a_o_text a_o_tunes a_o_present a_o_ahead a_o_images a_o_kept a_o_order a_o_told a_o_draft a_o_told_needs a_o_told_yields a_o_told_skips a_o_told_skills a_o_told_places a_o_told_wheel : Nat) (sz : Nat) (o_trace : Int64) (o_order : Nat → Int32) (o_told_trades : Int32) (o_told_people : Int32) (o_told_tradesEnded : Int32)  (N : Nat) (r' : Int32) (hf : fX4_orderAsFigures N o_order o_told_trades   = some r') : Met l yX4_orderAsFigures wsX4_orderAsFigures rmX4_orderAsFigures (va_Pc [.ref a_o] (gB (dC, dI) Z [(cC, .char), (cI, .int), (cZ, .boolean), (cW, .object RX3)] [(a_o, .inr (4, [.ref a_o_text, .ref a_o_tunes, .ref a_o_present, .ref a_o_ahead, .ref a_o_images, .ref a_o_kept, .ref a_o_order, .ref a_o_told, .ref a_o_draft, .long o_trace])), (a_o_order, .inl (cI, 6, .inl o_order)), (a_o_told, .inr (1, [.int o_told_trades, .int o_told_people, .ref a_o_told_needs, .ref a_o_told_yields, .ref a_o_told_skips, .ref a_o_told_skills, .ref a_o_told_places, .ref a_o_told_wheel, .int o_told_tradesEnded]))] sz)) (va_Qi (fun (r : Int32) (_ : Unit) => r = r') (gE (dC, dI) [(a_o, .inr (4, [.ref a_o_text, .ref a_o_tunes, .ref a_o_present, .ref a_o_ahead, .ref a_o_images, .ref a_o_kept, .ref a_o_order, .ref a_o_told, .ref a_o_draft, .long o_trace])), (a_o_order, .inl (cI, 6, .inl o_order)), (a_o_told, .inr (1, [.int o_told_trades, .int o_told_people, .ref a_o_told_needs, .ref a_o_told_yields, .ref a_o_told_skips, .ref a_o_told_skills, .ref a_o_told_places, .ref a_o_told_wheel, .int o_told_tradesEnded]))]) (va_A [(a_o, .inr (4, [.ref a_o_text, .ref a_o_tunes, .ref a_o_present, .ref a_o_ahead, .ref a_o_images, .ref a_o_kept, .ref a_o_order, .ref a_o_told, .ref a_o_draft, .long o_trace])), (a_o_order, .inl (cI, 6, .inl o_order)), (a_o_told, .inr (1, [.int o_told_trades, .int o_told_people, .ref a_o_told_needs, .ref a_o_told_yields, .ref a_o_told_skips, .ref a_o_told_skills, .ref a_o_told_places, .ref a_o_told_wheel, .int o_told_tradesEnded]))] sz)) 0 0 (va_A [(a_o, .inr (4, [.ref a_o_text, .ref a_o_tunes, .ref a_o_present, .ref a_o_ahead, .ref a_o_images, .ref a_o_kept, .ref a_o_order, .ref a_o_told, .ref a_o_draft, .long o_trace])), (a_o_order, .inl (cI, 6, .inl o_order)), (a_o_told, .inr (1, [.int o_told_trades, .int o_told_people, .ref a_o_told_needs, .ref a_o_told_yields, .ref a_o_told_skips, .ref a_o_told_skills, .ref a_o_told_places, .ref a_o_told_wheel, .int o_told_tradesEnded]))] sz) := by
  refine gMet (cc := cX4_orderAsFigures) (maxL := 3) (ret := (some .int)) (Qc := fun A => va_Qi (fun (r : Int32) (_ : Unit) => r = r') (gE (dC, dI) [(a_o, .inr (4, [.ref a_o_text, .ref a_o_tunes, .ref a_o_present, .ref a_o_ahead, .ref a_o_images, .ref a_o_kept, .ref a_o_order, .ref a_o_told, .ref a_o_draft, .long o_trace])), (a_o_order, .inl (cI, 6, .inl o_order)), (a_o_told, .inr (1, [.int o_told_trades, .int o_told_people, .ref a_o_told_needs, .ref a_o_told_yields, .ref a_o_told_skips, .ref a_o_told_skills, .ref a_o_told_places, .ref a_o_told_wheel, .int o_told_tradesEnded]))]) A) (by decide) rfl (Nat.le_of_ble_eq_true rfl) ?_
  intro p e s m below meth c A ls hg0 _ hsz hP hD hS hl
  have hg0 : gX p s m _ meth c cX4_orderAsFigures 3 (some .int) wsX4_orderAsFigures RX4 (dC, dI) Z [(cC, .char), (cI, .int), (cZ, .boolean), (cW, .object RX3)] A := hg0
  obtain ⟨hx, hb, hr, hml, hown, hts, hlocks, hA, hK, hN⟩ := id hg0
  subst hsz
  have hF : CallFix p m c cX4_orderAsFigures 3 s _ wsX4_orderAsFigures RX4 := ⟨hx, hb, hml, hown, hts⟩
  have hl : lv_has ls 3 [(0, .ref a_o)] := hl
  unfold fX4_orderAsFigures at hf
  refine lv_iconst (v := (0 : Int32)) hx hb dX4_orderAsFigures_0 (by decide) ?_
  refine lv_istore_n (lv' := [(1, .int (0 : Int32)), (0, .ref a_o)]) hx hb dX4_orderAsFigures_1 rfl hl (by decide) rfl (fun ls hl => ?_)
  refine lv_iconst (v := (0 : Int32)) hx hb dX4_orderAsFigures_2 (by decide) ?_
  refine lv_istore_n (lv' := [(2, .int (0 : Int32)), (1, .int (0 : Int32)), (0, .ref a_o)]) hx hb dX4_orderAsFigures_3 rfl hl (by decide) rfl (fun ls hl => ?_)
  obtain ⟨l1_1, l2_2, hc, hf⟩ := pb2 hf
  refine wX4_orderAsFigures_4 hg0 a_o a_o_text a_o_tunes a_o_present a_o_ahead a_o_images a_o_kept a_o_order a_o_told a_o_draft a_o_told_needs a_o_told_yields a_o_told_skips a_o_told_skills a_o_told_places a_o_told_wheel o_trace o_order o_told_trades o_told_people o_told_tradesEnded  N N (0 : Int32) (0 : Int32) l1_1 l2_2 hc _ _ _ hP hD hS (lv_sub hl [2, 1, 0] rfl) (fun H locs ls hP hD hS hl => ?_)
  refine lv_iload_n hx hb dX4_orderAsFigures_33 rfl (lv_at hl 0 rfl) ?_
  have q0 := Option.some.inj hf
  subst q0
  exact gRi hx hb hr hlocks hP hS dX4_orderAsFigures_34
abbrev rmX4_worksAsNow : Room := { frames := 3, cells := 0, slots := 0, locals := 68 }
set_option maxRecDepth 20000 in
theorem uX4_worksAsNow_X1 : ∀ w ∈ wsX10, w ∈ wsX4_worksAsNow := by decide +kernel
set_option maxRecDepth 20000 in
theorem uX4_worksAsNow_X4 : ∀ w ∈ wsX40, w ∈ wsX4_worksAsNow := by decide +kernel
set_option maxRecDepth 20000 in
theorem mX4_worksAsNow_0 : (Cond.fieldLink RX4 48 "TradeWheel" "told" "LTradeWheel$Told;" : Cond) ∈ wsX4_worksAsNow := by decide +kernel
set_option maxRecDepth 20000 in
theorem mX4_worksAsNow_1 : (Cond.fieldLink RX4 197 "TradeWheel$Told" "people" "I" : Cond) ∈ wsX4_worksAsNow := by decide +kernel
set_option maxRecDepth 20000 in
theorem mX4_worksAsNow_2 : (Cond.fieldLink RX4 30 "TradeWheel" "ahead" "LTradeWheel$World;" : Cond) ∈ wsX4_worksAsNow := by decide +kernel
set_option maxRecDepth 20000 in
theorem mX4_worksAsNow_3 : (Cond.fieldLink RX4 26 "TradeWheel" "present" "LTradeWheel$World;" : Cond) ∈ wsX4_worksAsNow := by decide +kernel
set_option maxHeartbeats 4000000 in
set_option maxRecDepth 100000 in
theorem wX4_worksAsNow_2 {p : Program} {l : Launch} {e : Env} {s : State} {m : MethodId} {args : Array Value} {below : List Frame} {meth : Method} {c : Code} {Q : State → Prop} {A : Nat → Prop} {dC : Nat → ClassId} {dI : Nat → Nat → Nat} {Z : gZ} {cC cI cZ cW : ClassId} (hg0 : gX p s m args meth c cX4_worksAsNow 2 (some .boolean) wsX4_worksAsNow RX4 (dC, dI) Z [(cC, .char), (cI, .int), (cZ, .boolean), (cW, .object RX3)] A) (a_o a_o_text a_o_tunes a_o_present a_o_ahead a_o_images a_o_kept a_o_order a_o_told a_o_draft a_o_present_skills a_o_present_places a_o_present_stores a_o_present_lacked a_o_present_helpers a_o_present_favours a_o_present_wheel a_o_present_works a_o_ahead_skills a_o_ahead_places a_o_ahead_stores a_o_ahead_lacked a_o_ahead_helpers a_o_ahead_favours a_o_ahead_wheel a_o_ahead_works a_o_told_needs a_o_told_yields a_o_told_skips a_o_told_skills a_o_told_places a_o_told_wheel : Nat) (o_trace : Int64) (o_present_round : Int32) (o_present_fell : Int32) (o_present_ills : Int32) (o_present_places : Nat → Int32) (o_present_wheel : Nat → Int32) (o_ahead_round : Int32) (o_ahead_fell : Int32) (o_ahead_ills : Int32) (o_ahead_places : Nat → Int32) (o_ahead_wheel : Nat → Int32) (o_told_trades : Int32) (o_told_people : Int32) (o_told_tradesEnded : Int32) (o_told_skips : Nat → Int32)  (N : Nat) : ∀ (n : Nat) (l1 : Int32) (ro' : Option Int32) (l1' : Int32), fX4_worksAsNow_2 N o_present_places o_present_wheel o_ahead_places o_ahead_wheel o_told_trades o_told_people o_told_skips n l1 = some (ro', l1') → ∀ (H : Heap) (locs : List Loc) (ls : Array Slot), va_P (dC, dI) vwCl [(a_o, .inr (4, [.ref a_o_text, .ref a_o_tunes, .ref a_o_present, .ref a_o_ahead, .ref a_o_images, .ref a_o_kept, .ref a_o_order, .ref a_o_told, .ref a_o_draft, .long o_trace])), (a_o_present, .inr (3, [.int o_present_round, .int o_present_fell, .int o_present_ills, .ref a_o_present_skills, .ref a_o_present_places, .ref a_o_present_stores, .ref a_o_present_lacked, .ref a_o_present_helpers, .ref a_o_present_favours, .ref a_o_present_wheel, .ref a_o_present_works])), (a_o_present_places, .inl (cI, 6, .inl o_present_places)), (a_o_present_wheel, .inl (cI, 6, .inl o_present_wheel)), (a_o_ahead, .inr (3, [.int o_ahead_round, .int o_ahead_fell, .int o_ahead_ills, .ref a_o_ahead_skills, .ref a_o_ahead_places, .ref a_o_ahead_stores, .ref a_o_ahead_lacked, .ref a_o_ahead_helpers, .ref a_o_ahead_favours, .ref a_o_ahead_wheel, .ref a_o_ahead_works])), (a_o_ahead_places, .inl (cI, 6, .inl o_ahead_places)), (a_o_ahead_wheel, .inl (cI, 6, .inl o_ahead_wheel)), (a_o_told, .inr (1, [.int o_told_trades, .int o_told_people, .ref a_o_told_needs, .ref a_o_told_yields, .ref a_o_told_skips, .ref a_o_told_skills, .ref a_o_told_places, .ref a_o_told_wheel, .int o_told_tradesEnded])), (a_o_told_skips, .inl (cI, 6, .inl o_told_skips))] H → va_D A [(a_o, .inr (4, [.ref a_o_text, .ref a_o_tunes, .ref a_o_present, .ref a_o_ahead, .ref a_o_images, .ref a_o_kept, .ref a_o_order, .ref a_o_told, .ref a_o_draft, .long o_trace])), (a_o_present, .inr (3, [.int o_present_round, .int o_present_fell, .int o_present_ills, .ref a_o_present_skills, .ref a_o_present_places, .ref a_o_present_stores, .ref a_o_present_lacked, .ref a_o_present_helpers, .ref a_o_present_favours, .ref a_o_present_wheel, .ref a_o_present_works])), (a_o_present_places, .inl (cI, 6, .inl o_present_places)), (a_o_present_wheel, .inl (cI, 6, .inl o_present_wheel)), (a_o_ahead, .inr (3, [.int o_ahead_round, .int o_ahead_fell, .int o_ahead_ills, .ref a_o_ahead_skills, .ref a_o_ahead_places, .ref a_o_ahead_stores, .ref a_o_ahead_lacked, .ref a_o_ahead_helpers, .ref a_o_ahead_favours, .ref a_o_ahead_wheel, .ref a_o_ahead_works])), (a_o_ahead_places, .inl (cI, 6, .inl o_ahead_places)), (a_o_ahead_wheel, .inl (cI, 6, .inl o_ahead_wheel)), (a_o_told, .inr (1, [.int o_told_trades, .int o_told_people, .ref a_o_told_needs, .ref a_o_told_yields, .ref a_o_told_skips, .ref a_o_told_skills, .ref a_o_told_places, .ref a_o_told_wheel, .int o_told_tradesEnded])), (a_o_told_skips, .inl (cI, 6, .inl o_told_skips))] → va_S A s.heap H locs → lv_has ls 2 [(0, .ref a_o), (1, .int l1)] → (ro' = none → ∀ (H : Heap) (locs : List Loc) (ls : Array Slot), va_P (dC, dI) vwCl [(a_o, .inr (4, [.ref a_o_text, .ref a_o_tunes, .ref a_o_present, .ref a_o_ahead, .ref a_o_images, .ref a_o_kept, .ref a_o_order, .ref a_o_told, .ref a_o_draft, .long o_trace])), (a_o_present, .inr (3, [.int o_present_round, .int o_present_fell, .int o_present_ills, .ref a_o_present_skills, .ref a_o_present_places, .ref a_o_present_stores, .ref a_o_present_lacked, .ref a_o_present_helpers, .ref a_o_present_favours, .ref a_o_present_wheel, .ref a_o_present_works])), (a_o_present_places, .inl (cI, 6, .inl o_present_places)), (a_o_present_wheel, .inl (cI, 6, .inl o_present_wheel)), (a_o_ahead, .inr (3, [.int o_ahead_round, .int o_ahead_fell, .int o_ahead_ills, .ref a_o_ahead_skills, .ref a_o_ahead_places, .ref a_o_ahead_stores, .ref a_o_ahead_lacked, .ref a_o_ahead_helpers, .ref a_o_ahead_favours, .ref a_o_ahead_wheel, .ref a_o_ahead_works])), (a_o_ahead_places, .inl (cI, 6, .inl o_ahead_places)), (a_o_ahead_wheel, .inl (cI, 6, .inl o_ahead_wheel)), (a_o_told, .inr (1, [.int o_told_trades, .int o_told_people, .ref a_o_told_needs, .ref a_o_told_yields, .ref a_o_told_skips, .ref a_o_told_skills, .ref a_o_told_places, .ref a_o_told_wheel, .int o_told_tradesEnded])), (a_o_told_skips, .inl (cI, 6, .inl o_told_skips))] H → va_D A [(a_o, .inr (4, [.ref a_o_text, .ref a_o_tunes, .ref a_o_present, .ref a_o_ahead, .ref a_o_images, .ref a_o_kept, .ref a_o_order, .ref a_o_told, .ref a_o_draft, .long o_trace])), (a_o_present, .inr (3, [.int o_present_round, .int o_present_fell, .int o_present_ills, .ref a_o_present_skills, .ref a_o_present_places, .ref a_o_present_stores, .ref a_o_present_lacked, .ref a_o_present_helpers, .ref a_o_present_favours, .ref a_o_present_wheel, .ref a_o_present_works])), (a_o_present_places, .inl (cI, 6, .inl o_present_places)), (a_o_present_wheel, .inl (cI, 6, .inl o_present_wheel)), (a_o_ahead, .inr (3, [.int o_ahead_round, .int o_ahead_fell, .int o_ahead_ills, .ref a_o_ahead_skills, .ref a_o_ahead_places, .ref a_o_ahead_stores, .ref a_o_ahead_lacked, .ref a_o_ahead_helpers, .ref a_o_ahead_favours, .ref a_o_ahead_wheel, .ref a_o_ahead_works])), (a_o_ahead_places, .inl (cI, 6, .inl o_ahead_places)), (a_o_ahead_wheel, .inl (cI, 6, .inl o_ahead_wheel)), (a_o_told, .inr (1, [.int o_told_trades, .int o_told_people, .ref a_o_told_needs, .ref a_o_told_yields, .ref a_o_told_skips, .ref a_o_told_skills, .ref a_o_told_places, .ref a_o_told_wheel, .int o_told_tradesEnded])), (a_o_told_skips, .inl (cI, 6, .inl o_told_skips))] → va_S A s.heap H locs → lv_has ls 2 [] → W p l e (headSpec wsX4_worksAsNow rmX4_worksAsNow).room s m args below meth c H locs 0 0 Q (F0 m 48 ls [])) → (∀ r9 : Int32, ro' = some r9 → ∀ (H : Heap) (locs : List Loc) (ls : Array Slot), va_P (dC, dI) vwCl [(a_o, .inr (4, [.ref a_o_text, .ref a_o_tunes, .ref a_o_present, .ref a_o_ahead, .ref a_o_images, .ref a_o_kept, .ref a_o_order, .ref a_o_told, .ref a_o_draft, .long o_trace])), (a_o_present, .inr (3, [.int o_present_round, .int o_present_fell, .int o_present_ills, .ref a_o_present_skills, .ref a_o_present_places, .ref a_o_present_stores, .ref a_o_present_lacked, .ref a_o_present_helpers, .ref a_o_present_favours, .ref a_o_present_wheel, .ref a_o_present_works])), (a_o_present_places, .inl (cI, 6, .inl o_present_places)), (a_o_present_wheel, .inl (cI, 6, .inl o_present_wheel)), (a_o_ahead, .inr (3, [.int o_ahead_round, .int o_ahead_fell, .int o_ahead_ills, .ref a_o_ahead_skills, .ref a_o_ahead_places, .ref a_o_ahead_stores, .ref a_o_ahead_lacked, .ref a_o_ahead_helpers, .ref a_o_ahead_favours, .ref a_o_ahead_wheel, .ref a_o_ahead_works])), (a_o_ahead_places, .inl (cI, 6, .inl o_ahead_places)), (a_o_ahead_wheel, .inl (cI, 6, .inl o_ahead_wheel)), (a_o_told, .inr (1, [.int o_told_trades, .int o_told_people, .ref a_o_told_needs, .ref a_o_told_yields, .ref a_o_told_skips, .ref a_o_told_skills, .ref a_o_told_places, .ref a_o_told_wheel, .int o_told_tradesEnded])), (a_o_told_skips, .inl (cI, 6, .inl o_told_skips))] H → va_D A [(a_o, .inr (4, [.ref a_o_text, .ref a_o_tunes, .ref a_o_present, .ref a_o_ahead, .ref a_o_images, .ref a_o_kept, .ref a_o_order, .ref a_o_told, .ref a_o_draft, .long o_trace])), (a_o_present, .inr (3, [.int o_present_round, .int o_present_fell, .int o_present_ills, .ref a_o_present_skills, .ref a_o_present_places, .ref a_o_present_stores, .ref a_o_present_lacked, .ref a_o_present_helpers, .ref a_o_present_favours, .ref a_o_present_wheel, .ref a_o_present_works])), (a_o_present_places, .inl (cI, 6, .inl o_present_places)), (a_o_present_wheel, .inl (cI, 6, .inl o_present_wheel)), (a_o_ahead, .inr (3, [.int o_ahead_round, .int o_ahead_fell, .int o_ahead_ills, .ref a_o_ahead_skills, .ref a_o_ahead_places, .ref a_o_ahead_stores, .ref a_o_ahead_lacked, .ref a_o_ahead_helpers, .ref a_o_ahead_favours, .ref a_o_ahead_wheel, .ref a_o_ahead_works])), (a_o_ahead_places, .inl (cI, 6, .inl o_ahead_places)), (a_o_ahead_wheel, .inl (cI, 6, .inl o_ahead_wheel)), (a_o_told, .inr (1, [.int o_told_trades, .int o_told_people, .ref a_o_told_needs, .ref a_o_told_yields, .ref a_o_told_skips, .ref a_o_told_skills, .ref a_o_told_places, .ref a_o_told_wheel, .int o_told_tradesEnded])), (a_o_told_skips, .inl (cI, 6, .inl o_told_skips))] → va_S A s.heap H locs → W p l e (headSpec wsX4_worksAsNow rmX4_worksAsNow).room s m args below meth c H locs 0 0 Q (F0 m 41 ls [.int r9])) → W p l e (headSpec wsX4_worksAsNow rmX4_worksAsNow).room s m args below meth c H locs 0 0 Q (F0 m 2 ls []) := by
  obtain ⟨hx, hb, hr, hml, hown, hts, hlocks, hA, hK, hN⟩ := id hg0
  have hF : CallFix p m c cX4_worksAsNow 2 s args wsX4_worksAsNow RX4 := ⟨hx, hb, hml, hown, hts⟩
  intro n
  induction n with
  | zero =>
    intro l1 ro' l1' hf
    have hf := fX4_worksAsNow_2_0.symm.trans hf
    cases hf
  | succ n ih =>
    intro l1 ro' l1' hf H locs ls hP hD hS hl kx kr41
    have hf := fX4_worksAsNow_2_s.symm.trans hf
    refine lv_iload_n hx hb dX4_worksAsNow_2 rfl (lv_at hl 1 rfl) ?_
    refine lv_aload_n hx hb dX4_worksAsNow_3 rfl (lv_at hl 0 rfl) ?_
    refine va_get (D := (dC, dI)) (ci := 4) (v := .ref a_o_told) (C := RX4) (T := TX4) (N := 10) hx hb hts uX4_worksAsNow_X4 hown hK hP 0 rfl rfl 7 (by decide) (hts _ mX4_worksAsNow_0) (fun _ h9 => h9) rfl dX4_worksAsNow_4 ?_
    refine va_get (D := (dC, dI)) (ci := 1) (v := .int o_told_people) (C := RX1) (T := TX1) (N := 9) hx hb hts uX4_worksAsNow_X1 hown hK hP 7 rfl rfl 1 (by decide) (hts _ mX4_worksAsNow_1) (fun _ h9 => h9) rfl dX4_worksAsNow_7 ?_
    refine lv_icmp_ge (tgt := 48) hx hb dX4_worksAsNow_10 (by decide) (fun c_1 => ?_) (fun c_1 => ?_)
    · have hf := pit hf c_1
      have q0 := Option.some.inj hf
      obtain ⟨e0, q1⟩ := Prod.mk.inj q0
      subst e0
      subst q1
      exact kx rfl _ _ _ hP hD hS (lv_sub hl [] rfl)
    · have hf := pif hf c_1
      refine lv_aload_n hx hb dX4_worksAsNow_13 rfl (lv_at hl 0 rfl) ?_
      refine va_get (D := (dC, dI)) (ci := 4) (v := .ref a_o_ahead) (C := RX4) (T := TX4) (N := 10) hx hb hts uX4_worksAsNow_X4 hown hK hP 0 rfl rfl 3 (by decide) (hts _ mX4_worksAsNow_2) (fun _ h9 => h9) rfl dX4_worksAsNow_14 ?_
      refine lv_iload_n hx hb dX4_worksAsNow_17 rfl (lv_at hl 1 rfl) ?_
      refine lv_aload_n hx hb dX4_worksAsNow_18 rfl (lv_at hl 0 rfl) ?_
      refine va_get (D := (dC, dI)) (ci := 4) (v := .ref a_o_told) (C := RX4) (T := TX4) (N := 10) hx hb hts uX4_worksAsNow_X4 hown hK hP 0 rfl rfl 7 (by decide) (hts _ mX4_worksAsNow_0) (fun _ h9 => h9) rfl dX4_worksAsNow_19 ?_
      obtain ⟨r_2, hc, hf⟩ := pb1 hf
      refine gCi (va_runV (As := [.int l1, .ref a_o_told]) (rest := []) hF (kX3_tradeOf l dC dI Z cC cI cZ cW a_o_ahead a_o_ahead_skills a_o_ahead_places a_o_ahead_stores a_o_ahead_lacked a_o_ahead_helpers a_o_ahead_favours a_o_ahead_wheel a_o_ahead_works a_o_told a_o_told_needs a_o_told_yields a_o_told_skips a_o_told_skills a_o_told_places a_o_told_wheel _ o_ahead_round o_ahead_fell o_ahead_ills o_ahead_places o_ahead_wheel o_told_trades o_told_people o_told_tradesEnded o_told_skips l1 N r_2 hc) (cwV 2 hts gX4_worksAsNow_X3_tradeOf rfl rfl rfl (by decide +kernel) ⟨Nat.le_of_ble_eq_true rfl, Nat.le_of_ble_eq_true rfl⟩) (gPV (wc := [(a_o_ahead, .inr (3, [.int o_ahead_round, .int o_ahead_fell, .int o_ahead_ills, .ref a_o_ahead_skills, .ref a_o_ahead_places, .ref a_o_ahead_stores, .ref a_o_ahead_lacked, .ref a_o_ahead_helpers, .ref a_o_ahead_favours, .ref a_o_ahead_wheel, .ref a_o_ahead_works])), (a_o_ahead_places, .inl (cI, 6, .inl o_ahead_places)), (a_o_ahead_wheel, .inl (cI, 6, .inl o_ahead_wheel)), (a_o_told, .inr (1, [.int o_told_trades, .int o_told_people, .ref a_o_told_needs, .ref a_o_told_yields, .ref a_o_told_skips, .ref a_o_told_skills, .ref a_o_told_places, .ref a_o_told_wheel, .int o_told_tradesEnded])), (a_o_told_skips, .inl (cI, 6, .inl o_told_skips))]) hK hN hA hS hP hD [4, 5, 6, 7, 8] rfl rfl (q0 := 0) (ci := 3) rfl rfl rfl) rfl rfl hl.1 rfl (lv_room (Nat.le_of_ble_eq_true rfl)) dX4_worksAsNow_22 ⟨Nat.zero_le _, Nat.zero_le _⟩) hP hD hS hA [4, 5, 6, 7, 8] rfl rfl rfl (fun H locs hP hD hS => ?_)
      have hP : va_P (dC, dI) vwCl [(a_o, .inr (4, [.ref a_o_text, .ref a_o_tunes, .ref a_o_present, .ref a_o_ahead, .ref a_o_images, .ref a_o_kept, .ref a_o_order, .ref a_o_told, .ref a_o_draft, .long o_trace])), (a_o_present, .inr (3, [.int o_present_round, .int o_present_fell, .int o_present_ills, .ref a_o_present_skills, .ref a_o_present_places, .ref a_o_present_stores, .ref a_o_present_lacked, .ref a_o_present_helpers, .ref a_o_present_favours, .ref a_o_present_wheel, .ref a_o_present_works])), (a_o_present_places, .inl (cI, 6, .inl o_present_places)), (a_o_present_wheel, .inl (cI, 6, .inl o_present_wheel)), (a_o_ahead, .inr (3, [.int o_ahead_round, .int o_ahead_fell, .int o_ahead_ills, .ref a_o_ahead_skills, .ref a_o_ahead_places, .ref a_o_ahead_stores, .ref a_o_ahead_lacked, .ref a_o_ahead_helpers, .ref a_o_ahead_favours, .ref a_o_ahead_wheel, .ref a_o_ahead_works])), (a_o_ahead_places, .inl (cI, 6, .inl o_ahead_places)), (a_o_ahead_wheel, .inl (cI, 6, .inl o_ahead_wheel)), (a_o_told, .inr (1, [.int o_told_trades, .int o_told_people, .ref a_o_told_needs, .ref a_o_told_yields, .ref a_o_told_skips, .ref a_o_told_skills, .ref a_o_told_places, .ref a_o_told_wheel, .int o_told_tradesEnded])), (a_o_told_skips, .inl (cI, 6, .inl o_told_skips))] H := hP
      have hD : va_D A [(a_o, .inr (4, [.ref a_o_text, .ref a_o_tunes, .ref a_o_present, .ref a_o_ahead, .ref a_o_images, .ref a_o_kept, .ref a_o_order, .ref a_o_told, .ref a_o_draft, .long o_trace])), (a_o_present, .inr (3, [.int o_present_round, .int o_present_fell, .int o_present_ills, .ref a_o_present_skills, .ref a_o_present_places, .ref a_o_present_stores, .ref a_o_present_lacked, .ref a_o_present_helpers, .ref a_o_present_favours, .ref a_o_present_wheel, .ref a_o_present_works])), (a_o_present_places, .inl (cI, 6, .inl o_present_places)), (a_o_present_wheel, .inl (cI, 6, .inl o_present_wheel)), (a_o_ahead, .inr (3, [.int o_ahead_round, .int o_ahead_fell, .int o_ahead_ills, .ref a_o_ahead_skills, .ref a_o_ahead_places, .ref a_o_ahead_stores, .ref a_o_ahead_lacked, .ref a_o_ahead_helpers, .ref a_o_ahead_favours, .ref a_o_ahead_wheel, .ref a_o_ahead_works])), (a_o_ahead_places, .inl (cI, 6, .inl o_ahead_places)), (a_o_ahead_wheel, .inl (cI, 6, .inl o_ahead_wheel)), (a_o_told, .inr (1, [.int o_told_trades, .int o_told_people, .ref a_o_told_needs, .ref a_o_told_yields, .ref a_o_told_skips, .ref a_o_told_skills, .ref a_o_told_places, .ref a_o_told_wheel, .int o_told_tradesEnded])), (a_o_told_skips, .inl (cI, 6, .inl o_told_skips))] := hD
      refine lv_aload_n hx hb dX4_worksAsNow_25 rfl (lv_at hl 0 rfl) ?_
      refine va_get (D := (dC, dI)) (ci := 4) (v := .ref a_o_present) (C := RX4) (T := TX4) (N := 10) hx hb hts uX4_worksAsNow_X4 hown hK hP 0 rfl rfl 2 (by decide) (hts _ mX4_worksAsNow_3) (fun _ h9 => h9) rfl dX4_worksAsNow_26 ?_
      refine lv_iload_n hx hb dX4_worksAsNow_29 rfl (lv_at hl 1 rfl) ?_
      refine lv_aload_n hx hb dX4_worksAsNow_30 rfl (lv_at hl 0 rfl) ?_
      refine va_get (D := (dC, dI)) (ci := 4) (v := .ref a_o_told) (C := RX4) (T := TX4) (N := 10) hx hb hts uX4_worksAsNow_X4 hown hK hP 0 rfl rfl 7 (by decide) (hts _ mX4_worksAsNow_0) (fun _ h9 => h9) rfl dX4_worksAsNow_31 ?_
      obtain ⟨r_3, hc, hf⟩ := pb1 hf
      refine gCi (va_runV (As := [.int l1, .ref a_o_told]) (rest := [.int r_2]) hF (kX3_tradeOf l dC dI Z cC cI cZ cW a_o_present a_o_present_skills a_o_present_places a_o_present_stores a_o_present_lacked a_o_present_helpers a_o_present_favours a_o_present_wheel a_o_present_works a_o_told a_o_told_needs a_o_told_yields a_o_told_skips a_o_told_skills a_o_told_places a_o_told_wheel _ o_present_round o_present_fell o_present_ills o_present_places o_present_wheel o_told_trades o_told_people o_told_tradesEnded o_told_skips l1 N r_3 hc) (cwV 2 hts gX4_worksAsNow_X3_tradeOf rfl rfl rfl (by decide +kernel) ⟨Nat.le_of_ble_eq_true rfl, Nat.le_of_ble_eq_true rfl⟩) (gPV (wc := [(a_o_present, .inr (3, [.int o_present_round, .int o_present_fell, .int o_present_ills, .ref a_o_present_skills, .ref a_o_present_places, .ref a_o_present_stores, .ref a_o_present_lacked, .ref a_o_present_helpers, .ref a_o_present_favours, .ref a_o_present_wheel, .ref a_o_present_works])), (a_o_present_places, .inl (cI, 6, .inl o_present_places)), (a_o_present_wheel, .inl (cI, 6, .inl o_present_wheel)), (a_o_told, .inr (1, [.int o_told_trades, .int o_told_people, .ref a_o_told_needs, .ref a_o_told_yields, .ref a_o_told_skips, .ref a_o_told_skills, .ref a_o_told_places, .ref a_o_told_wheel, .int o_told_tradesEnded])), (a_o_told_skips, .inl (cI, 6, .inl o_told_skips))]) hK hN hA hS hP hD [1, 2, 3, 7, 8] rfl rfl (q0 := 0) (ci := 3) rfl rfl rfl) rfl rfl hl.1 rfl (lv_room (Nat.le_of_ble_eq_true rfl)) dX4_worksAsNow_34 ⟨Nat.zero_le _, Nat.zero_le _⟩) hP hD hS hA [1, 2, 3, 7, 8] rfl rfl rfl (fun H locs hP hD hS => ?_)
      have hP : va_P (dC, dI) vwCl [(a_o, .inr (4, [.ref a_o_text, .ref a_o_tunes, .ref a_o_present, .ref a_o_ahead, .ref a_o_images, .ref a_o_kept, .ref a_o_order, .ref a_o_told, .ref a_o_draft, .long o_trace])), (a_o_present, .inr (3, [.int o_present_round, .int o_present_fell, .int o_present_ills, .ref a_o_present_skills, .ref a_o_present_places, .ref a_o_present_stores, .ref a_o_present_lacked, .ref a_o_present_helpers, .ref a_o_present_favours, .ref a_o_present_wheel, .ref a_o_present_works])), (a_o_present_places, .inl (cI, 6, .inl o_present_places)), (a_o_present_wheel, .inl (cI, 6, .inl o_present_wheel)), (a_o_ahead, .inr (3, [.int o_ahead_round, .int o_ahead_fell, .int o_ahead_ills, .ref a_o_ahead_skills, .ref a_o_ahead_places, .ref a_o_ahead_stores, .ref a_o_ahead_lacked, .ref a_o_ahead_helpers, .ref a_o_ahead_favours, .ref a_o_ahead_wheel, .ref a_o_ahead_works])), (a_o_ahead_places, .inl (cI, 6, .inl o_ahead_places)), (a_o_ahead_wheel, .inl (cI, 6, .inl o_ahead_wheel)), (a_o_told, .inr (1, [.int o_told_trades, .int o_told_people, .ref a_o_told_needs, .ref a_o_told_yields, .ref a_o_told_skips, .ref a_o_told_skills, .ref a_o_told_places, .ref a_o_told_wheel, .int o_told_tradesEnded])), (a_o_told_skips, .inl (cI, 6, .inl o_told_skips))] H := hP
      have hD : va_D A [(a_o, .inr (4, [.ref a_o_text, .ref a_o_tunes, .ref a_o_present, .ref a_o_ahead, .ref a_o_images, .ref a_o_kept, .ref a_o_order, .ref a_o_told, .ref a_o_draft, .long o_trace])), (a_o_present, .inr (3, [.int o_present_round, .int o_present_fell, .int o_present_ills, .ref a_o_present_skills, .ref a_o_present_places, .ref a_o_present_stores, .ref a_o_present_lacked, .ref a_o_present_helpers, .ref a_o_present_favours, .ref a_o_present_wheel, .ref a_o_present_works])), (a_o_present_places, .inl (cI, 6, .inl o_present_places)), (a_o_present_wheel, .inl (cI, 6, .inl o_present_wheel)), (a_o_ahead, .inr (3, [.int o_ahead_round, .int o_ahead_fell, .int o_ahead_ills, .ref a_o_ahead_skills, .ref a_o_ahead_places, .ref a_o_ahead_stores, .ref a_o_ahead_lacked, .ref a_o_ahead_helpers, .ref a_o_ahead_favours, .ref a_o_ahead_wheel, .ref a_o_ahead_works])), (a_o_ahead_places, .inl (cI, 6, .inl o_ahead_places)), (a_o_ahead_wheel, .inl (cI, 6, .inl o_ahead_wheel)), (a_o_told, .inr (1, [.int o_told_trades, .int o_told_people, .ref a_o_told_needs, .ref a_o_told_yields, .ref a_o_told_skips, .ref a_o_told_skills, .ref a_o_told_places, .ref a_o_told_wheel, .int o_told_tradesEnded])), (a_o_told_skips, .inl (cI, 6, .inl o_told_skips))] := hD
      refine lv_icmp_eq (tgt := 42) hx hb dX4_worksAsNow_37 (by decide) (fun c_4 => ?_) (fun c_4 => ?_)
      · have hf := pit hf c_4
        refine lv_iinc (v := (l1 + 1)) (lv' := [(1, .int (l1 + 1)), (0, .ref a_o)]) hx hb dX4_worksAsNow_42 hl (k := 1) rfl rfl (by decide) rfl (fun ls hl => ?_)
        refine lv_goto (tgt := 2) hx hb dX4_worksAsNow_45 (by decide) ?_
        exact ih _ _ _ hf _ _ _ hP hD hS (lv_sub hl [1, 0] rfl) kx kr41
      · have hf := pif hf c_4
        refine lv_iconst (v := (0 : Int32)) hx hb dX4_worksAsNow_40 (by decide) ?_
        have q0 := Option.some.inj hf
        obtain ⟨e0, q1⟩ := Prod.mk.inj q0
        subst e0
        subst q1
        exact kr41 _ rfl _ _ _ hP hD hS
set_option maxHeartbeats 4000000 in
set_option maxRecDepth 100000 in
theorem kX4_worksAsNow (l : Launch) (dC : Nat → ClassId) (dI : Nat → Nat → Nat) (Z : gZ) (cC cI cZ cW : ClassId) (a_o a_o_text a_o_tunes a_o_present a_o_ahead a_o_images a_o_kept a_o_order a_o_told a_o_draft a_o_present_skills a_o_present_places a_o_present_stores a_o_present_lacked a_o_present_helpers a_o_present_favours a_o_present_wheel a_o_present_works a_o_ahead_skills a_o_ahead_places a_o_ahead_stores a_o_ahead_lacked a_o_ahead_helpers a_o_ahead_favours a_o_ahead_wheel a_o_ahead_works a_o_told_needs a_o_told_yields a_o_told_skips a_o_told_skills a_o_told_places a_o_told_wheel : Nat) (sz : Nat) (o_trace : Int64) (o_present_round : Int32) (o_present_fell : Int32) (o_present_ills : Int32) (o_present_places : Nat → Int32) (o_present_wheel : Nat → Int32) (o_ahead_round : Int32) (o_ahead_fell : Int32) (o_ahead_ills : Int32) (o_ahead_places : Nat → Int32) (o_ahead_wheel : Nat → Int32) (o_told_trades : Int32) (o_told_people : Int32) (o_told_tradesEnded : Int32) (o_told_skips : Nat → Int32)  (N : Nat) (r' : Int32) (hf : fX4_worksAsNow N o_present_places o_present_wheel o_ahead_places o_ahead_wheel o_told_trades o_told_people o_told_skips   = some r') : Met l yX4_worksAsNow wsX4_worksAsNow rmX4_worksAsNow (va_Pc [.ref a_o] (gB (dC, dI) Z [(cC, .char), (cI, .int), (cZ, .boolean), (cW, .object RX3)] [(a_o, .inr (4, [.ref a_o_text, .ref a_o_tunes, .ref a_o_present, .ref a_o_ahead, .ref a_o_images, .ref a_o_kept, .ref a_o_order, .ref a_o_told, .ref a_o_draft, .long o_trace])), (a_o_present, .inr (3, [.int o_present_round, .int o_present_fell, .int o_present_ills, .ref a_o_present_skills, .ref a_o_present_places, .ref a_o_present_stores, .ref a_o_present_lacked, .ref a_o_present_helpers, .ref a_o_present_favours, .ref a_o_present_wheel, .ref a_o_present_works])), (a_o_present_places, .inl (cI, 6, .inl o_present_places)), (a_o_present_wheel, .inl (cI, 6, .inl o_present_wheel)), (a_o_ahead, .inr (3, [.int o_ahead_round, .int o_ahead_fell, .int o_ahead_ills, .ref a_o_ahead_skills, .ref a_o_ahead_places, .ref a_o_ahead_stores, .ref a_o_ahead_lacked, .ref a_o_ahead_helpers, .ref a_o_ahead_favours, .ref a_o_ahead_wheel, .ref a_o_ahead_works])), (a_o_ahead_places, .inl (cI, 6, .inl o_ahead_places)), (a_o_ahead_wheel, .inl (cI, 6, .inl o_ahead_wheel)), (a_o_told, .inr (1, [.int o_told_trades, .int o_told_people, .ref a_o_told_needs, .ref a_o_told_yields, .ref a_o_told_skips, .ref a_o_told_skills, .ref a_o_told_places, .ref a_o_told_wheel, .int o_told_tradesEnded])), (a_o_told_skips, .inl (cI, 6, .inl o_told_skips))] sz)) (va_Qi (fun (r : Int32) (_ : Unit) => r = r') (gE (dC, dI) [(a_o, .inr (4, [.ref a_o_text, .ref a_o_tunes, .ref a_o_present, .ref a_o_ahead, .ref a_o_images, .ref a_o_kept, .ref a_o_order, .ref a_o_told, .ref a_o_draft, .long o_trace])), (a_o_present, .inr (3, [.int o_present_round, .int o_present_fell, .int o_present_ills, .ref a_o_present_skills, .ref a_o_present_places, .ref a_o_present_stores, .ref a_o_present_lacked, .ref a_o_present_helpers, .ref a_o_present_favours, .ref a_o_present_wheel, .ref a_o_present_works])), (a_o_present_places, .inl (cI, 6, .inl o_present_places)), (a_o_present_wheel, .inl (cI, 6, .inl o_present_wheel)), (a_o_ahead, .inr (3, [.int o_ahead_round, .int o_ahead_fell, .int o_ahead_ills, .ref a_o_ahead_skills, .ref a_o_ahead_places, .ref a_o_ahead_stores, .ref a_o_ahead_lacked, .ref a_o_ahead_helpers, .ref a_o_ahead_favours, .ref a_o_ahead_wheel, .ref a_o_ahead_works])), (a_o_ahead_places, .inl (cI, 6, .inl o_ahead_places)), (a_o_ahead_wheel, .inl (cI, 6, .inl o_ahead_wheel)), (a_o_told, .inr (1, [.int o_told_trades, .int o_told_people, .ref a_o_told_needs, .ref a_o_told_yields, .ref a_o_told_skips, .ref a_o_told_skills, .ref a_o_told_places, .ref a_o_told_wheel, .int o_told_tradesEnded])), (a_o_told_skips, .inl (cI, 6, .inl o_told_skips))]) (va_A [(a_o, .inr (4, [.ref a_o_text, .ref a_o_tunes, .ref a_o_present, .ref a_o_ahead, .ref a_o_images, .ref a_o_kept, .ref a_o_order, .ref a_o_told, .ref a_o_draft, .long o_trace])), (a_o_present, .inr (3, [.int o_present_round, .int o_present_fell, .int o_present_ills, .ref a_o_present_skills, .ref a_o_present_places, .ref a_o_present_stores, .ref a_o_present_lacked, .ref a_o_present_helpers, .ref a_o_present_favours, .ref a_o_present_wheel, .ref a_o_present_works])), (a_o_present_places, .inl (cI, 6, .inl o_present_places)), (a_o_present_wheel, .inl (cI, 6, .inl o_present_wheel)), (a_o_ahead, .inr (3, [.int o_ahead_round, .int o_ahead_fell, .int o_ahead_ills, .ref a_o_ahead_skills, .ref a_o_ahead_places, .ref a_o_ahead_stores, .ref a_o_ahead_lacked, .ref a_o_ahead_helpers, .ref a_o_ahead_favours, .ref a_o_ahead_wheel, .ref a_o_ahead_works])), (a_o_ahead_places, .inl (cI, 6, .inl o_ahead_places)), (a_o_ahead_wheel, .inl (cI, 6, .inl o_ahead_wheel)), (a_o_told, .inr (1, [.int o_told_trades, .int o_told_people, .ref a_o_told_needs, .ref a_o_told_yields, .ref a_o_told_skips, .ref a_o_told_skills, .ref a_o_told_places, .ref a_o_told_wheel, .int o_told_tradesEnded])), (a_o_told_skips, .inl (cI, 6, .inl o_told_skips))] sz)) 0 0 (va_A [(a_o, .inr (4, [.ref a_o_text, .ref a_o_tunes, .ref a_o_present, .ref a_o_ahead, .ref a_o_images, .ref a_o_kept, .ref a_o_order, .ref a_o_told, .ref a_o_draft, .long o_trace])), (a_o_present, .inr (3, [.int o_present_round, .int o_present_fell, .int o_present_ills, .ref a_o_present_skills, .ref a_o_present_places, .ref a_o_present_stores, .ref a_o_present_lacked, .ref a_o_present_helpers, .ref a_o_present_favours, .ref a_o_present_wheel, .ref a_o_present_works])), (a_o_present_places, .inl (cI, 6, .inl o_present_places)), (a_o_present_wheel, .inl (cI, 6, .inl o_present_wheel)), (a_o_ahead, .inr (3, [.int o_ahead_round, .int o_ahead_fell, .int o_ahead_ills, .ref a_o_ahead_skills, .ref a_o_ahead_places, .ref a_o_ahead_stores, .ref a_o_ahead_lacked, .ref a_o_ahead_helpers, .ref a_o_ahead_favours, .ref a_o_ahead_wheel, .ref a_o_ahead_works])), (a_o_ahead_places, .inl (cI, 6, .inl o_ahead_places)), (a_o_ahead_wheel, .inl (cI, 6, .inl o_ahead_wheel)), (a_o_told, .inr (1, [.int o_told_trades, .int o_told_people, .ref a_o_told_needs, .ref a_o_told_yields, .ref a_o_told_skips, .ref a_o_told_skills, .ref a_o_told_places, .ref a_o_told_wheel, .int o_told_tradesEnded])), (a_o_told_skips, .inl (cI, 6, .inl o_told_skips))] sz) := by
  refine gMet (cc := cX4_worksAsNow) (maxL := 2) (ret := (some .boolean)) (Qc := fun A => va_Qi (fun (r : Int32) (_ : Unit) => r = r') (gE (dC, dI) [(a_o, .inr (4, [.ref a_o_text, .ref a_o_tunes, .ref a_o_present, .ref a_o_ahead, .ref a_o_images, .ref a_o_kept, .ref a_o_order, .ref a_o_told, .ref a_o_draft, .long o_trace])), (a_o_present, .inr (3, [.int o_present_round, .int o_present_fell, .int o_present_ills, .ref a_o_present_skills, .ref a_o_present_places, .ref a_o_present_stores, .ref a_o_present_lacked, .ref a_o_present_helpers, .ref a_o_present_favours, .ref a_o_present_wheel, .ref a_o_present_works])), (a_o_present_places, .inl (cI, 6, .inl o_present_places)), (a_o_present_wheel, .inl (cI, 6, .inl o_present_wheel)), (a_o_ahead, .inr (3, [.int o_ahead_round, .int o_ahead_fell, .int o_ahead_ills, .ref a_o_ahead_skills, .ref a_o_ahead_places, .ref a_o_ahead_stores, .ref a_o_ahead_lacked, .ref a_o_ahead_helpers, .ref a_o_ahead_favours, .ref a_o_ahead_wheel, .ref a_o_ahead_works])), (a_o_ahead_places, .inl (cI, 6, .inl o_ahead_places)), (a_o_ahead_wheel, .inl (cI, 6, .inl o_ahead_wheel)), (a_o_told, .inr (1, [.int o_told_trades, .int o_told_people, .ref a_o_told_needs, .ref a_o_told_yields, .ref a_o_told_skips, .ref a_o_told_skills, .ref a_o_told_places, .ref a_o_told_wheel, .int o_told_tradesEnded])), (a_o_told_skips, .inl (cI, 6, .inl o_told_skips))]) A) (by decide) rfl (Nat.le_of_ble_eq_true rfl) ?_
  intro p e s m below meth c A ls hg0 _ hsz hP hD hS hl
  have hg0 : gX p s m _ meth c cX4_worksAsNow 2 (some .boolean) wsX4_worksAsNow RX4 (dC, dI) Z [(cC, .char), (cI, .int), (cZ, .boolean), (cW, .object RX3)] A := hg0
  obtain ⟨hx, hb, hr, hml, hown, hts, hlocks, hA, hK, hN⟩ := id hg0
  subst hsz
  have hF : CallFix p m c cX4_worksAsNow 2 s _ wsX4_worksAsNow RX4 := ⟨hx, hb, hml, hown, hts⟩
  have hl : lv_has ls 2 [(0, .ref a_o)] := hl
  unfold fX4_worksAsNow at hf
  refine lv_iconst (v := (0 : Int32)) hx hb dX4_worksAsNow_0 (by decide) ?_
  refine lv_istore_n (lv' := [(1, .int (0 : Int32)), (0, .ref a_o)]) hx hb dX4_worksAsNow_1 rfl hl (by decide) rfl (fun ls hl => ?_)
  obtain ⟨ro_1, l1_2, hc, hf⟩ := pb2 hf
  refine wX4_worksAsNow_2 hg0 a_o a_o_text a_o_tunes a_o_present a_o_ahead a_o_images a_o_kept a_o_order a_o_told a_o_draft a_o_present_skills a_o_present_places a_o_present_stores a_o_present_lacked a_o_present_helpers a_o_present_favours a_o_present_wheel a_o_present_works a_o_ahead_skills a_o_ahead_places a_o_ahead_stores a_o_ahead_lacked a_o_ahead_helpers a_o_ahead_favours a_o_ahead_wheel a_o_ahead_works a_o_told_needs a_o_told_yields a_o_told_skips a_o_told_skills a_o_told_places a_o_told_wheel o_trace o_present_round o_present_fell o_present_ills o_present_places o_present_wheel o_ahead_round o_ahead_fell o_ahead_ills o_ahead_places o_ahead_wheel o_told_trades o_told_people o_told_tradesEnded o_told_skips  N N (0 : Int32) ro_1 l1_2 hc _ _ _ hP hD hS (lv_sub hl [1, 0] rfl) (fun hro H locs ls hP hD hS hl => ?_) (fun r9 hro H locs ls hP hD hS => ?_)
  · subst hro
    have hf := rjn hf
    refine lv_iconst (v := (1 : Int32)) hx hb dX4_worksAsNow_48 (by decide) ?_
    have q0 := Option.some.inj hf
    subst q0
    exact gRz hx hb hr rfl hlocks hP hS dX4_worksAsNow_49
  · subst hro
    have hf := rjs hf
    obtain ⟨hbz, hf⟩ := pgb hf
    have q0 := Option.some.inj hf
    subst q0
    exact gRz hx hb hr (nar_b hbz) hlocks hP hS dX4_worksAsNow_41
abbrev rmX4_asPerson : Room := { frames := 1, cells := 0, slots := 0, locals := 21 }
set_option maxRecDepth 20000 in
theorem uX4_asPerson_X1 : ∀ w ∈ wsX10, w ∈ wsX4_asPerson := by decide +kernel
set_option maxRecDepth 20000 in
theorem uX4_asPerson_X3 : ∀ w ∈ wsX30, w ∈ wsX4_asPerson := by decide +kernel
set_option maxRecDepth 20000 in
theorem uX4_asPerson_X4 : ∀ w ∈ wsX40, w ∈ wsX4_asPerson := by decide +kernel
set_option maxRecDepth 20000 in
theorem mX4_asPerson_0 : (Cond.fieldLink RX4 55 "TradeWheel" "trace" "J" : Cond) ∈ wsX4_asPerson := by decide +kernel
set_option maxRecDepth 20000 in
theorem mX4_asPerson_1 : (Cond.fieldLink RX4 48 "TradeWheel" "told" "LTradeWheel$Told;" : Cond) ∈ wsX4_asPerson := by decide +kernel
set_option maxRecDepth 20000 in
theorem mX4_asPerson_2 : (Cond.fieldLink RX4 144 "TradeWheel$Told" "trades" "I" : Cond) ∈ wsX4_asPerson := by decide +kernel
set_option maxRecDepth 20000 in
theorem mX4_asPerson_3 : (Cond.fieldLink RX4 26 "TradeWheel" "present" "LTradeWheel$World;" : Cond) ∈ wsX4_asPerson := by decide +kernel
set_option maxRecDepth 20000 in
theorem mX4_asPerson_4 : (Cond.fieldLink RX4 105 "TradeWheel$World" "skills" "[I" : Cond) ∈ wsX4_asPerson := by decide +kernel
set_option maxHeartbeats 4000000 in
set_option maxRecDepth 100000 in
theorem wX4_asPerson_14 {p : Program} {l : Launch} {e : Env} {s : State} {m : MethodId} {args : Array Value} {below : List Frame} {meth : Method} {c : Code} {Q : State → Prop} {A : Nat → Prop} {dC : Nat → ClassId} {dI : Nat → Nat → Nat} {Z : gZ} {cC cI cZ cW : ClassId} (hg0 : gX p s m args meth c cX4_asPerson 4 (some .int) wsX4_asPerson RX4 (dC, dI) Z [(cC, .char), (cI, .int), (cZ, .boolean), (cW, .object RX3)] A) (a_o a_o_text a_o_tunes a_o_present a_o_ahead a_o_images a_o_kept a_o_order a_o_told a_o_draft a_o_present_skills a_o_present_places a_o_present_stores a_o_present_lacked a_o_present_helpers a_o_present_favours a_o_present_wheel a_o_present_works a_o_told_needs a_o_told_yields a_o_told_skips a_o_told_skills a_o_told_places a_o_told_wheel : Nat) (o_trace : Int64) (o_present_round : Int32) (o_present_fell : Int32) (o_present_ills : Int32) (o_present_skills : Nat → Int32) (o_told_trades : Int32) (o_told_people : Int32) (o_told_tradesEnded : Int32) (l1 : Int32) (N : Nat) : ∀ (n : Nat) (l2 : Int32) (l3 : Int32) (l2' : Int32) (l3' : Int32), fX4_asPerson_14 N o_present_skills o_told_trades l1 n l2 l3 = some (l2', l3') → ∀ (H : Heap) (locs : List Loc) (ls : Array Slot), va_P (dC, dI) vwCl [(a_o, .inr (4, [.ref a_o_text, .ref a_o_tunes, .ref a_o_present, .ref a_o_ahead, .ref a_o_images, .ref a_o_kept, .ref a_o_order, .ref a_o_told, .ref a_o_draft, .long o_trace])), (a_o_present, .inr (3, [.int o_present_round, .int o_present_fell, .int o_present_ills, .ref a_o_present_skills, .ref a_o_present_places, .ref a_o_present_stores, .ref a_o_present_lacked, .ref a_o_present_helpers, .ref a_o_present_favours, .ref a_o_present_wheel, .ref a_o_present_works])), (a_o_present_skills, .inl (cI, 36, .inl o_present_skills)), (a_o_told, .inr (1, [.int o_told_trades, .int o_told_people, .ref a_o_told_needs, .ref a_o_told_yields, .ref a_o_told_skips, .ref a_o_told_skills, .ref a_o_told_places, .ref a_o_told_wheel, .int o_told_tradesEnded]))] H → va_D A [(a_o, .inr (4, [.ref a_o_text, .ref a_o_tunes, .ref a_o_present, .ref a_o_ahead, .ref a_o_images, .ref a_o_kept, .ref a_o_order, .ref a_o_told, .ref a_o_draft, .long o_trace])), (a_o_present, .inr (3, [.int o_present_round, .int o_present_fell, .int o_present_ills, .ref a_o_present_skills, .ref a_o_present_places, .ref a_o_present_stores, .ref a_o_present_lacked, .ref a_o_present_helpers, .ref a_o_present_favours, .ref a_o_present_wheel, .ref a_o_present_works])), (a_o_present_skills, .inl (cI, 36, .inl o_present_skills)), (a_o_told, .inr (1, [.int o_told_trades, .int o_told_people, .ref a_o_told_needs, .ref a_o_told_yields, .ref a_o_told_skips, .ref a_o_told_skills, .ref a_o_told_places, .ref a_o_told_wheel, .int o_told_tradesEnded]))] → va_S A s.heap H locs → lv_has ls 4 [(0, .ref a_o), (1, .int l1), (2, .int l2), (3, .int l3)] → (∀ (H : Heap) (locs : List Loc) (ls : Array Slot), va_P (dC, dI) vwCl [(a_o, .inr (4, [.ref a_o_text, .ref a_o_tunes, .ref a_o_present, .ref a_o_ahead, .ref a_o_images, .ref a_o_kept, .ref a_o_order, .ref a_o_told, .ref a_o_draft, .long o_trace])), (a_o_present, .inr (3, [.int o_present_round, .int o_present_fell, .int o_present_ills, .ref a_o_present_skills, .ref a_o_present_places, .ref a_o_present_stores, .ref a_o_present_lacked, .ref a_o_present_helpers, .ref a_o_present_favours, .ref a_o_present_wheel, .ref a_o_present_works])), (a_o_present_skills, .inl (cI, 36, .inl o_present_skills)), (a_o_told, .inr (1, [.int o_told_trades, .int o_told_people, .ref a_o_told_needs, .ref a_o_told_yields, .ref a_o_told_skips, .ref a_o_told_skills, .ref a_o_told_places, .ref a_o_told_wheel, .int o_told_tradesEnded]))] H → va_D A [(a_o, .inr (4, [.ref a_o_text, .ref a_o_tunes, .ref a_o_present, .ref a_o_ahead, .ref a_o_images, .ref a_o_kept, .ref a_o_order, .ref a_o_told, .ref a_o_draft, .long o_trace])), (a_o_present, .inr (3, [.int o_present_round, .int o_present_fell, .int o_present_ills, .ref a_o_present_skills, .ref a_o_present_places, .ref a_o_present_stores, .ref a_o_present_lacked, .ref a_o_present_helpers, .ref a_o_present_favours, .ref a_o_present_wheel, .ref a_o_present_works])), (a_o_present_skills, .inl (cI, 36, .inl o_present_skills)), (a_o_told, .inr (1, [.int o_told_trades, .int o_told_people, .ref a_o_told_needs, .ref a_o_told_yields, .ref a_o_told_skips, .ref a_o_told_skills, .ref a_o_told_places, .ref a_o_told_wheel, .int o_told_tradesEnded]))] → va_S A s.heap H locs → lv_has ls 4 [(2, .int l2')] → W p l e (headSpec wsX4_asPerson rmX4_asPerson).room s m args below meth c H locs 0 0 Q (F0 m 47 ls [])) → W p l e (headSpec wsX4_asPerson rmX4_asPerson).room s m args below meth c H locs 0 0 Q (F0 m 14 ls []) := by
  obtain ⟨hx, hb, hr, hml, hown, hts, hlocks, hA, hK, hN⟩ := id hg0
  have hF : CallFix p m c cX4_asPerson 4 s args wsX4_asPerson RX4 := ⟨hx, hb, hml, hown, hts⟩
  intro n
  induction n with
  | zero =>
    intro l2 l3 l2' l3' hf
    have hf := fX4_asPerson_14_0.symm.trans hf
    cases hf
  | succ n ih =>
    intro l2 l3 l2' l3' hf H locs ls hP hD hS hl kx
    have hf := fX4_asPerson_14_s.symm.trans hf
    refine lv_iload_n hx hb dX4_asPerson_14 rfl (lv_at hl 3 rfl) ?_
    refine lv_aload_n hx hb dX4_asPerson_15 rfl (lv_at hl 0 rfl) ?_
    refine va_get (D := (dC, dI)) (ci := 4) (v := .ref a_o_told) (C := RX4) (T := TX4) (N := 10) hx hb hts uX4_asPerson_X4 hown hK hP 0 rfl rfl 7 (by decide) (hts _ mX4_asPerson_1) (fun _ h9 => h9) rfl dX4_asPerson_16 ?_
    refine va_get (D := (dC, dI)) (ci := 1) (v := .int o_told_trades) (C := RX1) (T := TX1) (N := 9) hx hb hts uX4_asPerson_X1 hown hK hP 3 rfl rfl 0 (by decide) (hts _ mX4_asPerson_2) (fun _ h9 => h9) rfl dX4_asPerson_19 ?_
    refine lv_icmp_ge (tgt := 47) hx hb dX4_asPerson_22 (by decide) (fun c_1 => ?_) (fun c_1 => ?_)
    · have hf := pit hf c_1
      have q0 := Option.some.inj hf
      obtain ⟨e0, q1⟩ := Prod.mk.inj q0
      subst e0
      subst q1
      exact kx _ _ _ hP hD hS (lv_sub hl [2] rfl)
    · have hf := pif hf c_1
      refine lv_iload_n hx hb dX4_asPerson_25 rfl (lv_at hl 2 rfl) ?_
      refine lv_aload_n hx hb dX4_asPerson_26 rfl (lv_at hl 0 rfl) ?_
      refine va_get (D := (dC, dI)) (ci := 4) (v := .ref a_o_present) (C := RX4) (T := TX4) (N := 10) hx hb hts uX4_asPerson_X4 hown hK hP 0 rfl rfl 2 (by decide) (hts _ mX4_asPerson_3) (fun _ h9 => h9) rfl dX4_asPerson_27 ?_
      refine va_get (D := (dC, dI)) (ci := 3) (v := .ref a_o_present_skills) (C := RX3) (T := TX3) (N := 11) hx hb hts uX4_asPerson_X3 hown hK hP 1 rfl rfl 3 (by decide) (hts _ mX4_asPerson_4) (fun _ h9 => h9) rfl dX4_asPerson_30 ?_
      refine lv_iload_n hx hb dX4_asPerson_33 rfl (lv_at hl 1 rfl) ?_
      refine lv_iload_n hx hb dX4_asPerson_34 rfl (lv_at hl 3 rfl) ?_
      obtain ⟨r_2, hc, hf⟩ := pb1 hf
      refine gCi (va_runS (As := [.int l1, .int l3]) (rest := [.ref a_o_present_skills, .int l2]) hF (kX4_cell l dC dI Z cC cI cZ cW  _  l1 l3 N r_2 hc) (cwS 2 hts gX4_asPerson_X4_cell rfl rfl rfl (by decide +kernel) ⟨Nat.le_of_ble_eq_true rfl, Nat.le_of_ble_eq_true rfl⟩) (gPS (wc := []) hK hN hA hS hP hD [] rfl rfl) rfl rfl hl.1 rfl (lv_room (Nat.le_of_ble_eq_true rfl)) dX4_asPerson_35 ⟨Nat.zero_le _, Nat.zero_le _⟩) hP hD hS hA [] rfl rfl rfl (fun H locs hP hD hS => ?_)
      have hP : va_P (dC, dI) vwCl [(a_o, .inr (4, [.ref a_o_text, .ref a_o_tunes, .ref a_o_present, .ref a_o_ahead, .ref a_o_images, .ref a_o_kept, .ref a_o_order, .ref a_o_told, .ref a_o_draft, .long o_trace])), (a_o_present, .inr (3, [.int o_present_round, .int o_present_fell, .int o_present_ills, .ref a_o_present_skills, .ref a_o_present_places, .ref a_o_present_stores, .ref a_o_present_lacked, .ref a_o_present_helpers, .ref a_o_present_favours, .ref a_o_present_wheel, .ref a_o_present_works])), (a_o_present_skills, .inl (cI, 36, .inl o_present_skills)), (a_o_told, .inr (1, [.int o_told_trades, .int o_told_people, .ref a_o_told_needs, .ref a_o_told_yields, .ref a_o_told_skips, .ref a_o_told_skills, .ref a_o_told_places, .ref a_o_told_wheel, .int o_told_tradesEnded]))] H := hP
      have hD : va_D A [(a_o, .inr (4, [.ref a_o_text, .ref a_o_tunes, .ref a_o_present, .ref a_o_ahead, .ref a_o_images, .ref a_o_kept, .ref a_o_order, .ref a_o_told, .ref a_o_draft, .long o_trace])), (a_o_present, .inr (3, [.int o_present_round, .int o_present_fell, .int o_present_ills, .ref a_o_present_skills, .ref a_o_present_places, .ref a_o_present_stores, .ref a_o_present_lacked, .ref a_o_present_helpers, .ref a_o_present_favours, .ref a_o_present_wheel, .ref a_o_present_works])), (a_o_present_skills, .inl (cI, 36, .inl o_present_skills)), (a_o_told, .inr (1, [.int o_told_trades, .int o_told_people, .ref a_o_told_needs, .ref a_o_told_yields, .ref a_o_told_skips, .ref a_o_told_skills, .ref a_o_told_places, .ref a_o_told_wheel, .int o_told_tradesEnded]))] := hD
      obtain ⟨h_3, hf⟩ := pgd hf
      refine va_iald hx hb hK hP 2 1 rfl rfl h_3 dX4_asPerson_38 ?_
      refine lv_iadd hx hb dX4_asPerson_39 ?_
      refine lv_istore_n (lv' := [(2, .int (l2 + (o_present_skills r_2.toNatClampNeg))), (0, .ref a_o), (1, .int l1), (3, .int l3)]) hx hb dX4_asPerson_40 rfl hl (by decide) rfl (fun ls hl => ?_)
      refine lv_iinc (v := (l3 + 1)) (lv' := [(3, .int (l3 + 1)), (2, .int (l2 + (o_present_skills r_2.toNatClampNeg))), (0, .ref a_o), (1, .int l1)]) hx hb dX4_asPerson_41 hl (k := 3) rfl rfl (by decide) rfl (fun ls hl => ?_)
      refine lv_goto (tgt := 14) hx hb dX4_asPerson_44 (by decide) ?_
      exact ih _ _ _ _ hf _ _ _ hP hD hS (lv_sub hl [2, 3, 1, 0] rfl) kx
set_option maxHeartbeats 4000000 in
set_option maxRecDepth 100000 in
theorem kX4_asPerson (l : Launch) (dC : Nat → ClassId) (dI : Nat → Nat → Nat) (Z : gZ) (cC cI cZ cW : ClassId) (a_o a_o_text a_o_tunes a_o_present a_o_ahead a_o_images a_o_kept a_o_order a_o_told a_o_draft a_o_present_skills a_o_present_places a_o_present_stores a_o_present_lacked a_o_present_helpers a_o_present_favours a_o_present_wheel a_o_present_works a_o_told_needs a_o_told_yields a_o_told_skips a_o_told_skills a_o_told_places a_o_told_wheel : Nat) (sz : Nat) (o_trace : Int64) (o_present_round : Int32) (o_present_fell : Int32) (o_present_ills : Int32) (o_present_skills : Nat → Int32) (o_told_trades : Int32) (o_told_people : Int32) (o_told_tradesEnded : Int32) (i1 : Int32) (N : Nat) (r' : Int32) (o_trace' : Int64) (hf : fX4_asPerson N o_trace o_present_skills o_told_trades  i1 = some (r', o_trace')) : Met l yX4_asPerson wsX4_asPerson rmX4_asPerson (va_Pc [.ref a_o, .int i1] (gB (dC, dI) Z [(cC, .char), (cI, .int), (cZ, .boolean), (cW, .object RX3)] [(a_o, .inr (4, [.ref a_o_text, .ref a_o_tunes, .ref a_o_present, .ref a_o_ahead, .ref a_o_images, .ref a_o_kept, .ref a_o_order, .ref a_o_told, .ref a_o_draft, .long o_trace])), (a_o_present, .inr (3, [.int o_present_round, .int o_present_fell, .int o_present_ills, .ref a_o_present_skills, .ref a_o_present_places, .ref a_o_present_stores, .ref a_o_present_lacked, .ref a_o_present_helpers, .ref a_o_present_favours, .ref a_o_present_wheel, .ref a_o_present_works])), (a_o_present_skills, .inl (cI, 36, .inl o_present_skills)), (a_o_told, .inr (1, [.int o_told_trades, .int o_told_people, .ref a_o_told_needs, .ref a_o_told_yields, .ref a_o_told_skips, .ref a_o_told_skills, .ref a_o_told_places, .ref a_o_told_wheel, .int o_told_tradesEnded]))] sz)) (va_Qi (fun (r : Int32) (_ : Unit) => r = r') (gE (dC, dI) [(a_o, .inr (4, [.ref a_o_text, .ref a_o_tunes, .ref a_o_present, .ref a_o_ahead, .ref a_o_images, .ref a_o_kept, .ref a_o_order, .ref a_o_told, .ref a_o_draft, .long o_trace'])), (a_o_present, .inr (3, [.int o_present_round, .int o_present_fell, .int o_present_ills, .ref a_o_present_skills, .ref a_o_present_places, .ref a_o_present_stores, .ref a_o_present_lacked, .ref a_o_present_helpers, .ref a_o_present_favours, .ref a_o_present_wheel, .ref a_o_present_works])), (a_o_present_skills, .inl (cI, 36, .inl o_present_skills)), (a_o_told, .inr (1, [.int o_told_trades, .int o_told_people, .ref a_o_told_needs, .ref a_o_told_yields, .ref a_o_told_skips, .ref a_o_told_skills, .ref a_o_told_places, .ref a_o_told_wheel, .int o_told_tradesEnded]))]) (va_A [(a_o, .inr (4, [.ref a_o_text, .ref a_o_tunes, .ref a_o_present, .ref a_o_ahead, .ref a_o_images, .ref a_o_kept, .ref a_o_order, .ref a_o_told, .ref a_o_draft, .long o_trace])), (a_o_present, .inr (3, [.int o_present_round, .int o_present_fell, .int o_present_ills, .ref a_o_present_skills, .ref a_o_present_places, .ref a_o_present_stores, .ref a_o_present_lacked, .ref a_o_present_helpers, .ref a_o_present_favours, .ref a_o_present_wheel, .ref a_o_present_works])), (a_o_present_skills, .inl (cI, 36, .inl o_present_skills)), (a_o_told, .inr (1, [.int o_told_trades, .int o_told_people, .ref a_o_told_needs, .ref a_o_told_yields, .ref a_o_told_skips, .ref a_o_told_skills, .ref a_o_told_places, .ref a_o_told_wheel, .int o_told_tradesEnded]))] sz)) 0 0 (va_A [(a_o, .inr (4, [.ref a_o_text, .ref a_o_tunes, .ref a_o_present, .ref a_o_ahead, .ref a_o_images, .ref a_o_kept, .ref a_o_order, .ref a_o_told, .ref a_o_draft, .long o_trace])), (a_o_present, .inr (3, [.int o_present_round, .int o_present_fell, .int o_present_ills, .ref a_o_present_skills, .ref a_o_present_places, .ref a_o_present_stores, .ref a_o_present_lacked, .ref a_o_present_helpers, .ref a_o_present_favours, .ref a_o_present_wheel, .ref a_o_present_works])), (a_o_present_skills, .inl (cI, 36, .inl o_present_skills)), (a_o_told, .inr (1, [.int o_told_trades, .int o_told_people, .ref a_o_told_needs, .ref a_o_told_yields, .ref a_o_told_skips, .ref a_o_told_skills, .ref a_o_told_places, .ref a_o_told_wheel, .int o_told_tradesEnded]))] sz) := by
  refine gMet (cc := cX4_asPerson) (maxL := 4) (ret := (some .int)) (Qc := fun A => va_Qi (fun (r : Int32) (_ : Unit) => r = r') (gE (dC, dI) [(a_o, .inr (4, [.ref a_o_text, .ref a_o_tunes, .ref a_o_present, .ref a_o_ahead, .ref a_o_images, .ref a_o_kept, .ref a_o_order, .ref a_o_told, .ref a_o_draft, .long o_trace'])), (a_o_present, .inr (3, [.int o_present_round, .int o_present_fell, .int o_present_ills, .ref a_o_present_skills, .ref a_o_present_places, .ref a_o_present_stores, .ref a_o_present_lacked, .ref a_o_present_helpers, .ref a_o_present_favours, .ref a_o_present_wheel, .ref a_o_present_works])), (a_o_present_skills, .inl (cI, 36, .inl o_present_skills)), (a_o_told, .inr (1, [.int o_told_trades, .int o_told_people, .ref a_o_told_needs, .ref a_o_told_yields, .ref a_o_told_skips, .ref a_o_told_skills, .ref a_o_told_places, .ref a_o_told_wheel, .int o_told_tradesEnded]))]) A) (by decide) rfl (Nat.le_of_ble_eq_true rfl) ?_
  intro p e s m below meth c A ls hg0 _ hsz hP hD hS hl
  have hg0 : gX p s m _ meth c cX4_asPerson 4 (some .int) wsX4_asPerson RX4 (dC, dI) Z [(cC, .char), (cI, .int), (cZ, .boolean), (cW, .object RX3)] A := hg0
  obtain ⟨hx, hb, hr, hml, hown, hts, hlocks, hA, hK, hN⟩ := id hg0
  subst hsz
  have hF : CallFix p m c cX4_asPerson 4 s _ wsX4_asPerson RX4 := ⟨hx, hb, hml, hown, hts⟩
  have hl : lv_has ls 4 [(0, .ref a_o), (1, .int i1)] := hl
  unfold fX4_asPerson at hf
  refine lv_aload_n hx hb dX4_asPerson_0 rfl (lv_at hl 0 rfl) ?_
  refine lv_dup hx hb dX4_asPerson_1 rfl ?_
  refine va_get (D := (dC, dI)) (ci := 4) (v := .long o_trace) (C := RX4) (T := TX4) (N := 10) hx hb hts uX4_asPerson_X4 hown hK hP 0 rfl rfl 9 (by decide) (hts _ mX4_asPerson_0) (fun _ h9 => h9) rfl dX4_asPerson_2 ?_
  refine lv_lconst (v := (1 : Int64)) hx hb dX4_asPerson_5 (by decide) ?_
  refine lv_ladd hx hb dX4_asPerson_6 ?_
  refine va_put (D := (dC, dI)) (ci := 4) (v := .long (o_trace + (1 : Int64))) (ty := .long) (C := RX4) (T := TX4) (N := 10) hx hb hts uX4_asPerson_X4 tyX4 tyX4_ok nmX4 hown hK hP hD hS 0 rfl rfl 9 (by decide) (hts _ mX4_asPerson_0) (fun _ h9 => h9) rfl (by decide +kernel) rfl rfl (Nat.le_of_ble_eq_true rfl) dX4_asPerson_7 (fun H locs hP hD hS => ?_)
  have hP : va_P (dC, dI) vwCl [(a_o, .inr (4, [.ref a_o_text, .ref a_o_tunes, .ref a_o_present, .ref a_o_ahead, .ref a_o_images, .ref a_o_kept, .ref a_o_order, .ref a_o_told, .ref a_o_draft, .long (o_trace + (1 : Int64))])), (a_o_present, .inr (3, [.int o_present_round, .int o_present_fell, .int o_present_ills, .ref a_o_present_skills, .ref a_o_present_places, .ref a_o_present_stores, .ref a_o_present_lacked, .ref a_o_present_helpers, .ref a_o_present_favours, .ref a_o_present_wheel, .ref a_o_present_works])), (a_o_present_skills, .inl (cI, 36, .inl o_present_skills)), (a_o_told, .inr (1, [.int o_told_trades, .int o_told_people, .ref a_o_told_needs, .ref a_o_told_yields, .ref a_o_told_skips, .ref a_o_told_skills, .ref a_o_told_places, .ref a_o_told_wheel, .int o_told_tradesEnded]))] H := hP
  have hD : va_D A [(a_o, .inr (4, [.ref a_o_text, .ref a_o_tunes, .ref a_o_present, .ref a_o_ahead, .ref a_o_images, .ref a_o_kept, .ref a_o_order, .ref a_o_told, .ref a_o_draft, .long (o_trace + (1 : Int64))])), (a_o_present, .inr (3, [.int o_present_round, .int o_present_fell, .int o_present_ills, .ref a_o_present_skills, .ref a_o_present_places, .ref a_o_present_stores, .ref a_o_present_lacked, .ref a_o_present_helpers, .ref a_o_present_favours, .ref a_o_present_wheel, .ref a_o_present_works])), (a_o_present_skills, .inl (cI, 36, .inl o_present_skills)), (a_o_told, .inr (1, [.int o_told_trades, .int o_told_people, .ref a_o_told_needs, .ref a_o_told_yields, .ref a_o_told_skips, .ref a_o_told_skills, .ref a_o_told_places, .ref a_o_told_wheel, .int o_told_tradesEnded]))] := hD
  refine lv_iconst (v := (0 : Int32)) hx hb dX4_asPerson_10 (by decide) ?_
  refine lv_istore_n (lv' := [(2, .int (0 : Int32)), (0, .ref a_o), (1, .int i1)]) hx hb dX4_asPerson_11 rfl hl (by decide) rfl (fun ls hl => ?_)
  refine lv_iconst (v := (0 : Int32)) hx hb dX4_asPerson_12 (by decide) ?_
  refine lv_istore_n (lv' := [(3, .int (0 : Int32)), (2, .int (0 : Int32)), (0, .ref a_o), (1, .int i1)]) hx hb dX4_asPerson_13 rfl hl (by decide) rfl (fun ls hl => ?_)
  obtain ⟨l2_1, l3_2, hc, hf⟩ := pb2 hf
  refine wX4_asPerson_14 hg0 a_o a_o_text a_o_tunes a_o_present a_o_ahead a_o_images a_o_kept a_o_order a_o_told a_o_draft a_o_present_skills a_o_present_places a_o_present_stores a_o_present_lacked a_o_present_helpers a_o_present_favours a_o_present_wheel a_o_present_works a_o_told_needs a_o_told_yields a_o_told_skips a_o_told_skills a_o_told_places a_o_told_wheel (o_trace + (1 : Int64)) o_present_round o_present_fell o_present_ills o_present_skills o_told_trades o_told_people o_told_tradesEnded i1 N N (0 : Int32) (0 : Int32) l2_1 l3_2 hc _ _ _ hP hD hS (lv_sub hl [2, 3, 1, 0] rfl) (fun H locs ls hP hD hS hl => ?_)
  refine lv_iload_n hx hb dX4_asPerson_47 rfl (lv_at hl 0 rfl) ?_
  have q0 := Option.some.inj hf
  obtain ⟨e0, q1⟩ := Prod.mk.inj q0
  subst e0
  subst q1
  exact gRi hx hb hr hlocks hP hS dX4_asPerson_48
abbrev rmX4_asLearner : Room := { frames := 2, cells := 0, slots := 0, locals := 44 }
set_option maxRecDepth 20000 in
theorem uX4_asLearner_X3 : ∀ w ∈ wsX30, w ∈ wsX4_asLearner := by decide +kernel
set_option maxRecDepth 20000 in
theorem uX4_asLearner_X4 : ∀ w ∈ wsX40, w ∈ wsX4_asLearner := by decide +kernel
set_option maxRecDepth 20000 in
theorem mX4_asLearner_0 : (Cond.fieldLink RX4 55 "TradeWheel" "trace" "J" : Cond) ∈ wsX4_asLearner := by decide +kernel
set_option maxRecDepth 20000 in
theorem mX4_asLearner_1 : (Cond.constantLong RX4 252 (10) : Cond) ∈ wsX4_asLearner := by decide +kernel
set_option maxRecDepth 20000 in
theorem mX4_asLearner_2 : (Cond.fieldLink RX4 26 "TradeWheel" "present" "LTradeWheel$World;" : Cond) ∈ wsX4_asLearner := by decide +kernel
set_option maxRecDepth 20000 in
theorem mX4_asLearner_3 : (Cond.fieldLink RX4 112 "TradeWheel$World" "places" "[I" : Cond) ∈ wsX4_asLearner := by decide +kernel
set_option maxHeartbeats 4000000 in
set_option maxRecDepth 100000 in
theorem kX4_asLearner (l : Launch) (dC : Nat → ClassId) (dI : Nat → Nat → Nat) (Z : gZ) (cC cI cZ cW : ClassId) (a_o a_o_text a_o_tunes a_o_present a_o_ahead a_o_images a_o_kept a_o_order a_o_told a_o_draft a_o_present_skills a_o_present_places a_o_present_stores a_o_present_lacked a_o_present_helpers a_o_present_favours a_o_present_wheel a_o_present_works a_o_told_needs a_o_told_yields a_o_told_skips a_o_told_skills a_o_told_places a_o_told_wheel : Nat) (sz : Nat) (o_trace : Int64) (o_present_round : Int32) (o_present_fell : Int32) (o_present_ills : Int32) (o_present_skills : Nat → Int32) (o_present_places : Nat → Int32) (o_told_trades : Int32) (o_told_people : Int32) (o_told_tradesEnded : Int32) (i1 : Int32) (N : Nat) (r' : Int32) (o_trace' : Int64) (hf : fX4_asLearner N o_trace o_present_skills o_present_places o_told_trades  i1 = some (r', o_trace')) : Met l yX4_asLearner wsX4_asLearner rmX4_asLearner (va_Pc [.ref a_o, .int i1] (gB (dC, dI) Z [(cC, .char), (cI, .int), (cZ, .boolean), (cW, .object RX3)] [(a_o, .inr (4, [.ref a_o_text, .ref a_o_tunes, .ref a_o_present, .ref a_o_ahead, .ref a_o_images, .ref a_o_kept, .ref a_o_order, .ref a_o_told, .ref a_o_draft, .long o_trace])), (a_o_present, .inr (3, [.int o_present_round, .int o_present_fell, .int o_present_ills, .ref a_o_present_skills, .ref a_o_present_places, .ref a_o_present_stores, .ref a_o_present_lacked, .ref a_o_present_helpers, .ref a_o_present_favours, .ref a_o_present_wheel, .ref a_o_present_works])), (a_o_present_skills, .inl (cI, 36, .inl o_present_skills)), (a_o_present_places, .inl (cI, 6, .inl o_present_places)), (a_o_told, .inr (1, [.int o_told_trades, .int o_told_people, .ref a_o_told_needs, .ref a_o_told_yields, .ref a_o_told_skips, .ref a_o_told_skills, .ref a_o_told_places, .ref a_o_told_wheel, .int o_told_tradesEnded]))] sz)) (va_Qi (fun (r : Int32) (_ : Unit) => r = r') (gE (dC, dI) [(a_o, .inr (4, [.ref a_o_text, .ref a_o_tunes, .ref a_o_present, .ref a_o_ahead, .ref a_o_images, .ref a_o_kept, .ref a_o_order, .ref a_o_told, .ref a_o_draft, .long o_trace'])), (a_o_present, .inr (3, [.int o_present_round, .int o_present_fell, .int o_present_ills, .ref a_o_present_skills, .ref a_o_present_places, .ref a_o_present_stores, .ref a_o_present_lacked, .ref a_o_present_helpers, .ref a_o_present_favours, .ref a_o_present_wheel, .ref a_o_present_works])), (a_o_present_skills, .inl (cI, 36, .inl o_present_skills)), (a_o_present_places, .inl (cI, 6, .inl o_present_places)), (a_o_told, .inr (1, [.int o_told_trades, .int o_told_people, .ref a_o_told_needs, .ref a_o_told_yields, .ref a_o_told_skips, .ref a_o_told_skills, .ref a_o_told_places, .ref a_o_told_wheel, .int o_told_tradesEnded]))]) (va_A [(a_o, .inr (4, [.ref a_o_text, .ref a_o_tunes, .ref a_o_present, .ref a_o_ahead, .ref a_o_images, .ref a_o_kept, .ref a_o_order, .ref a_o_told, .ref a_o_draft, .long o_trace])), (a_o_present, .inr (3, [.int o_present_round, .int o_present_fell, .int o_present_ills, .ref a_o_present_skills, .ref a_o_present_places, .ref a_o_present_stores, .ref a_o_present_lacked, .ref a_o_present_helpers, .ref a_o_present_favours, .ref a_o_present_wheel, .ref a_o_present_works])), (a_o_present_skills, .inl (cI, 36, .inl o_present_skills)), (a_o_present_places, .inl (cI, 6, .inl o_present_places)), (a_o_told, .inr (1, [.int o_told_trades, .int o_told_people, .ref a_o_told_needs, .ref a_o_told_yields, .ref a_o_told_skips, .ref a_o_told_skills, .ref a_o_told_places, .ref a_o_told_wheel, .int o_told_tradesEnded]))] sz)) 0 0 (va_A [(a_o, .inr (4, [.ref a_o_text, .ref a_o_tunes, .ref a_o_present, .ref a_o_ahead, .ref a_o_images, .ref a_o_kept, .ref a_o_order, .ref a_o_told, .ref a_o_draft, .long o_trace])), (a_o_present, .inr (3, [.int o_present_round, .int o_present_fell, .int o_present_ills, .ref a_o_present_skills, .ref a_o_present_places, .ref a_o_present_stores, .ref a_o_present_lacked, .ref a_o_present_helpers, .ref a_o_present_favours, .ref a_o_present_wheel, .ref a_o_present_works])), (a_o_present_skills, .inl (cI, 36, .inl o_present_skills)), (a_o_present_places, .inl (cI, 6, .inl o_present_places)), (a_o_told, .inr (1, [.int o_told_trades, .int o_told_people, .ref a_o_told_needs, .ref a_o_told_yields, .ref a_o_told_skips, .ref a_o_told_skills, .ref a_o_told_places, .ref a_o_told_wheel, .int o_told_tradesEnded]))] sz) := by
  refine gMet (cc := cX4_asLearner) (maxL := 2) (ret := (some .int)) (Qc := fun A => va_Qi (fun (r : Int32) (_ : Unit) => r = r') (gE (dC, dI) [(a_o, .inr (4, [.ref a_o_text, .ref a_o_tunes, .ref a_o_present, .ref a_o_ahead, .ref a_o_images, .ref a_o_kept, .ref a_o_order, .ref a_o_told, .ref a_o_draft, .long o_trace'])), (a_o_present, .inr (3, [.int o_present_round, .int o_present_fell, .int o_present_ills, .ref a_o_present_skills, .ref a_o_present_places, .ref a_o_present_stores, .ref a_o_present_lacked, .ref a_o_present_helpers, .ref a_o_present_favours, .ref a_o_present_wheel, .ref a_o_present_works])), (a_o_present_skills, .inl (cI, 36, .inl o_present_skills)), (a_o_present_places, .inl (cI, 6, .inl o_present_places)), (a_o_told, .inr (1, [.int o_told_trades, .int o_told_people, .ref a_o_told_needs, .ref a_o_told_yields, .ref a_o_told_skips, .ref a_o_told_skills, .ref a_o_told_places, .ref a_o_told_wheel, .int o_told_tradesEnded]))]) A) (by decide) rfl (Nat.le_of_ble_eq_true rfl) ?_
  intro p e s m below meth c A ls hg0 _ hsz hP hD hS hl
  have hg0 : gX p s m _ meth c cX4_asLearner 2 (some .int) wsX4_asLearner RX4 (dC, dI) Z [(cC, .char), (cI, .int), (cZ, .boolean), (cW, .object RX3)] A := hg0
  obtain ⟨hx, hb, hr, hml, hown, hts, hlocks, hA, hK, hN⟩ := id hg0
  subst hsz
  have hF : CallFix p m c cX4_asLearner 2 s _ wsX4_asLearner RX4 := ⟨hx, hb, hml, hown, hts⟩
  have hl : lv_has ls 2 [(0, .ref a_o), (1, .int i1)] := hl
  unfold fX4_asLearner at hf
  refine lv_aload_n hx hb dX4_asLearner_0 rfl (lv_at hl 0 rfl) ?_
  refine lv_dup hx hb dX4_asLearner_1 rfl ?_
  refine va_get (D := (dC, dI)) (ci := 4) (v := .long o_trace) (C := RX4) (T := TX4) (N := 10) hx hb hts uX4_asLearner_X4 hown hK hP 0 rfl rfl 9 (by decide) (hts _ mX4_asLearner_0) (fun _ h9 => h9) rfl dX4_asLearner_2 ?_
  refine lv_ldc2 (v := (10 : Int64)) hx hb hown (hts _ mX4_asLearner_1) dX4_asLearner_5 ?_
  refine lv_ladd hx hb dX4_asLearner_8 ?_
  refine va_put (D := (dC, dI)) (ci := 4) (v := .long (o_trace + (10 : Int64))) (ty := .long) (C := RX4) (T := TX4) (N := 10) hx hb hts uX4_asLearner_X4 tyX4 tyX4_ok nmX4 hown hK hP hD hS 0 rfl rfl 9 (by decide) (hts _ mX4_asLearner_0) (fun _ h9 => h9) rfl (by decide +kernel) rfl rfl (Nat.le_of_ble_eq_true rfl) dX4_asLearner_9 (fun H locs hP hD hS => ?_)
  have hP : va_P (dC, dI) vwCl [(a_o, .inr (4, [.ref a_o_text, .ref a_o_tunes, .ref a_o_present, .ref a_o_ahead, .ref a_o_images, .ref a_o_kept, .ref a_o_order, .ref a_o_told, .ref a_o_draft, .long (o_trace + (10 : Int64))])), (a_o_present, .inr (3, [.int o_present_round, .int o_present_fell, .int o_present_ills, .ref a_o_present_skills, .ref a_o_present_places, .ref a_o_present_stores, .ref a_o_present_lacked, .ref a_o_present_helpers, .ref a_o_present_favours, .ref a_o_present_wheel, .ref a_o_present_works])), (a_o_present_skills, .inl (cI, 36, .inl o_present_skills)), (a_o_present_places, .inl (cI, 6, .inl o_present_places)), (a_o_told, .inr (1, [.int o_told_trades, .int o_told_people, .ref a_o_told_needs, .ref a_o_told_yields, .ref a_o_told_skips, .ref a_o_told_skills, .ref a_o_told_places, .ref a_o_told_wheel, .int o_told_tradesEnded]))] H := hP
  have hD : va_D A [(a_o, .inr (4, [.ref a_o_text, .ref a_o_tunes, .ref a_o_present, .ref a_o_ahead, .ref a_o_images, .ref a_o_kept, .ref a_o_order, .ref a_o_told, .ref a_o_draft, .long (o_trace + (10 : Int64))])), (a_o_present, .inr (3, [.int o_present_round, .int o_present_fell, .int o_present_ills, .ref a_o_present_skills, .ref a_o_present_places, .ref a_o_present_stores, .ref a_o_present_lacked, .ref a_o_present_helpers, .ref a_o_present_favours, .ref a_o_present_wheel, .ref a_o_present_works])), (a_o_present_skills, .inl (cI, 36, .inl o_present_skills)), (a_o_present_places, .inl (cI, 6, .inl o_present_places)), (a_o_told, .inr (1, [.int o_told_trades, .int o_told_people, .ref a_o_told_needs, .ref a_o_told_yields, .ref a_o_told_skips, .ref a_o_told_skills, .ref a_o_told_places, .ref a_o_told_wheel, .int o_told_tradesEnded]))] := hD
  refine lv_aload_n hx hb dX4_asLearner_12 rfl (lv_at hl 0 rfl) ?_
  refine lv_iload_n hx hb dX4_asLearner_13 rfl (lv_at hl 1 rfl) ?_
  obtain ⟨r_1, o_trace_2, hc, hf⟩ := pb2 hf
  refine gCi (va_runV (As := [.int i1]) (rest := []) hF (kX4_asPerson l dC dI Z cC cI cZ cW a_o a_o_text a_o_tunes a_o_present a_o_ahead a_o_images a_o_kept a_o_order a_o_told a_o_draft a_o_present_skills a_o_present_places a_o_present_stores a_o_present_lacked a_o_present_helpers a_o_present_favours a_o_present_wheel a_o_present_works a_o_told_needs a_o_told_yields a_o_told_skips a_o_told_skills a_o_told_places a_o_told_wheel _ (o_trace + (10 : Int64)) o_present_round o_present_fell o_present_ills o_present_skills o_told_trades o_told_people o_told_tradesEnded i1 N r_1 o_trace_2 hc) (cwV 1 hts gX4_asLearner_X4_asPerson rfl rfl rfl (by decide +kernel) ⟨Nat.le_of_ble_eq_true rfl, Nat.le_of_ble_eq_true rfl⟩) (gPV (wc := [(a_o, .inr (4, [.ref a_o_text, .ref a_o_tunes, .ref a_o_present, .ref a_o_ahead, .ref a_o_images, .ref a_o_kept, .ref a_o_order, .ref a_o_told, .ref a_o_draft, .long (o_trace + (10 : Int64))])), (a_o_present, .inr (3, [.int o_present_round, .int o_present_fell, .int o_present_ills, .ref a_o_present_skills, .ref a_o_present_places, .ref a_o_present_stores, .ref a_o_present_lacked, .ref a_o_present_helpers, .ref a_o_present_favours, .ref a_o_present_wheel, .ref a_o_present_works])), (a_o_present_skills, .inl (cI, 36, .inl o_present_skills)), (a_o_told, .inr (1, [.int o_told_trades, .int o_told_people, .ref a_o_told_needs, .ref a_o_told_yields, .ref a_o_told_skips, .ref a_o_told_skills, .ref a_o_told_places, .ref a_o_told_wheel, .int o_told_tradesEnded]))]) hK hN hA hS hP hD [0, 1, 2, 4] rfl rfl (q0 := 0) (ci := 4) rfl rfl rfl) rfl rfl hl.1 rfl (lv_room (Nat.le_of_ble_eq_true rfl)) dX4_asLearner_14 ⟨Nat.zero_le _, Nat.zero_le _⟩) hP hD hS hA [0, 1, 2, 4] rfl rfl rfl (fun H locs hP hD hS => ?_)
  have hP : va_P (dC, dI) vwCl [(a_o, .inr (4, [.ref a_o_text, .ref a_o_tunes, .ref a_o_present, .ref a_o_ahead, .ref a_o_images, .ref a_o_kept, .ref a_o_order, .ref a_o_told, .ref a_o_draft, .long o_trace_2])), (a_o_present, .inr (3, [.int o_present_round, .int o_present_fell, .int o_present_ills, .ref a_o_present_skills, .ref a_o_present_places, .ref a_o_present_stores, .ref a_o_present_lacked, .ref a_o_present_helpers, .ref a_o_present_favours, .ref a_o_present_wheel, .ref a_o_present_works])), (a_o_present_skills, .inl (cI, 36, .inl o_present_skills)), (a_o_present_places, .inl (cI, 6, .inl o_present_places)), (a_o_told, .inr (1, [.int o_told_trades, .int o_told_people, .ref a_o_told_needs, .ref a_o_told_yields, .ref a_o_told_skips, .ref a_o_told_skills, .ref a_o_told_places, .ref a_o_told_wheel, .int o_told_tradesEnded]))] H := hP
  have hD : va_D A [(a_o, .inr (4, [.ref a_o_text, .ref a_o_tunes, .ref a_o_present, .ref a_o_ahead, .ref a_o_images, .ref a_o_kept, .ref a_o_order, .ref a_o_told, .ref a_o_draft, .long o_trace_2])), (a_o_present, .inr (3, [.int o_present_round, .int o_present_fell, .int o_present_ills, .ref a_o_present_skills, .ref a_o_present_places, .ref a_o_present_stores, .ref a_o_present_lacked, .ref a_o_present_helpers, .ref a_o_present_favours, .ref a_o_present_wheel, .ref a_o_present_works])), (a_o_present_skills, .inl (cI, 36, .inl o_present_skills)), (a_o_present_places, .inl (cI, 6, .inl o_present_places)), (a_o_told, .inr (1, [.int o_told_trades, .int o_told_people, .ref a_o_told_needs, .ref a_o_told_yields, .ref a_o_told_skips, .ref a_o_told_skills, .ref a_o_told_places, .ref a_o_told_wheel, .int o_told_tradesEnded]))] := hD
  refine lv_aload_n hx hb dX4_asLearner_17 rfl (lv_at hl 0 rfl) ?_
  refine va_get (D := (dC, dI)) (ci := 4) (v := .ref a_o_present) (C := RX4) (T := TX4) (N := 10) hx hb hts uX4_asLearner_X4 hown hK hP 0 rfl rfl 2 (by decide) (hts _ mX4_asLearner_2) (fun _ h9 => h9) rfl dX4_asLearner_18 ?_
  refine va_get (D := (dC, dI)) (ci := 3) (v := .ref a_o_present_places) (C := RX3) (T := TX3) (N := 11) hx hb hts uX4_asLearner_X3 hown hK hP 1 rfl rfl 4 (by decide) (hts _ mX4_asLearner_3) (fun _ h9 => h9) rfl dX4_asLearner_21 ?_
  refine lv_iload_n hx hb dX4_asLearner_24 rfl (lv_at hl 1 rfl) ?_
  obtain ⟨h_3, hf⟩ := pgd hf
  refine va_iald hx hb hK hP 3 1 rfl rfl h_3 dX4_asLearner_25 ?_
  refine lv_iadd hx hb dX4_asLearner_26 ?_
  have q0 := Option.some.inj hf
  obtain ⟨e0, q1⟩ := Prod.mk.inj q0
  subst e0
  subst q1
  exact gRi hx hb hr hlocks hP hS dX4_asLearner_27
abbrev rmX4_asChild : Room := { frames := 3, cells := 0, slots := 0, locals := 65 }
set_option maxRecDepth 20000 in
theorem uX4_asChild_X1 : ∀ w ∈ wsX10, w ∈ wsX4_asChild := by decide +kernel
set_option maxRecDepth 20000 in
theorem uX4_asChild_X3 : ∀ w ∈ wsX30, w ∈ wsX4_asChild := by decide +kernel
set_option maxRecDepth 20000 in
theorem uX4_asChild_X4 : ∀ w ∈ wsX40, w ∈ wsX4_asChild := by decide +kernel
set_option maxRecDepth 20000 in
theorem mX4_asChild_0 : (Cond.fieldLink RX4 55 "TradeWheel" "trace" "J" : Cond) ∈ wsX4_asChild := by decide +kernel
set_option maxRecDepth 20000 in
theorem mX4_asChild_1 : (Cond.constantLong RX4 263 (10000) : Cond) ∈ wsX4_asChild := by decide +kernel
set_option maxRecDepth 20000 in
theorem mX4_asChild_2 : (Cond.fieldLink RX4 48 "TradeWheel" "told" "LTradeWheel$Told;" : Cond) ∈ wsX4_asChild := by decide +kernel
set_option maxRecDepth 20000 in
theorem mX4_asChild_3 : (Cond.fieldLink RX4 144 "TradeWheel$Told" "trades" "I" : Cond) ∈ wsX4_asChild := by decide +kernel
set_option maxRecDepth 20000 in
theorem mX4_asChild_4 : (Cond.fieldLink RX4 26 "TradeWheel" "present" "LTradeWheel$World;" : Cond) ∈ wsX4_asChild := by decide +kernel
set_option maxRecDepth 20000 in
theorem mX4_asChild_5 : (Cond.fieldLink RX4 105 "TradeWheel$World" "skills" "[I" : Cond) ∈ wsX4_asChild := by decide +kernel
set_option maxRecDepth 20000 in
theorem mX4_asChild_6 : (Cond.methodLink RX4 265 Lib.Math.min.name : Cond) ∈ wsX4_asChild := by decide +kernel
set_option maxRecDepth 20000 in
theorem mX4_asChild_7 : (Cond.static Lib.Math.min.name : Cond) ∈ wsX4_asChild := by decide +kernel
set_option maxRecDepth 20000 in
theorem mX4_asChild_8 : (Cond.initialized "java/lang/Math" : Cond) ∈ wsX4_asChild := by decide +kernel
set_option maxRecDepth 20000 in
theorem mX4_asChild_9 : (Cond.code Lib.Math.min.name Lib.Math.min.code 2 (some .int) : Cond) ∈ wsX4_asChild := by decide +kernel
set_option maxHeartbeats 4000000 in
set_option maxRecDepth 100000 in
theorem wX4_asChild_31 {p : Program} {l : Launch} {e : Env} {s : State} {m : MethodId} {args : Array Value} {below : List Frame} {meth : Method} {c : Code} {Q : State → Prop} {A : Nat → Prop} {dC : Nat → ClassId} {dI : Nat → Nat → Nat} {Z : gZ} {cC cI cZ cW : ClassId} (hg0 : gX p s m args meth c cX4_asChild 4 (some .int) wsX4_asChild RX4 (dC, dI) Z [(cC, .char), (cI, .int), (cZ, .boolean), (cW, .object RX3)] A) (a_o a_o_text a_o_tunes a_o_present a_o_ahead a_o_images a_o_kept a_o_order a_o_told a_o_draft a_o_present_skills a_o_present_places a_o_present_stores a_o_present_lacked a_o_present_helpers a_o_present_favours a_o_present_wheel a_o_present_works a_o_told_needs a_o_told_yields a_o_told_skips a_o_told_skills a_o_told_places a_o_told_wheel : Nat) (o_trace : Int64) (o_present_round : Int32) (o_present_fell : Int32) (o_present_ills : Int32) (o_present_skills : Nat → Int32) (o_present_places : Nat → Int32) (o_told_trades : Int32) (o_told_people : Int32) (o_told_tradesEnded : Int32) (l1 : Int32) (N : Nat) : ∀ (n : Nat) (l2 : Int32) (l3 : Int32) (l2' : Int32) (l3' : Int32), fX4_asChild_31 N o_present_skills o_told_trades l1 n l2 l3 = some (l2', l3') → ∀ (H : Heap) (locs : List Loc) (ls : Array Slot), va_P (dC, dI) vwCl [(a_o, .inr (4, [.ref a_o_text, .ref a_o_tunes, .ref a_o_present, .ref a_o_ahead, .ref a_o_images, .ref a_o_kept, .ref a_o_order, .ref a_o_told, .ref a_o_draft, .long o_trace])), (a_o_present, .inr (3, [.int o_present_round, .int o_present_fell, .int o_present_ills, .ref a_o_present_skills, .ref a_o_present_places, .ref a_o_present_stores, .ref a_o_present_lacked, .ref a_o_present_helpers, .ref a_o_present_favours, .ref a_o_present_wheel, .ref a_o_present_works])), (a_o_present_skills, .inl (cI, 36, .inl o_present_skills)), (a_o_present_places, .inl (cI, 6, .inl o_present_places)), (a_o_told, .inr (1, [.int o_told_trades, .int o_told_people, .ref a_o_told_needs, .ref a_o_told_yields, .ref a_o_told_skips, .ref a_o_told_skills, .ref a_o_told_places, .ref a_o_told_wheel, .int o_told_tradesEnded]))] H → va_D A [(a_o, .inr (4, [.ref a_o_text, .ref a_o_tunes, .ref a_o_present, .ref a_o_ahead, .ref a_o_images, .ref a_o_kept, .ref a_o_order, .ref a_o_told, .ref a_o_draft, .long o_trace])), (a_o_present, .inr (3, [.int o_present_round, .int o_present_fell, .int o_present_ills, .ref a_o_present_skills, .ref a_o_present_places, .ref a_o_present_stores, .ref a_o_present_lacked, .ref a_o_present_helpers, .ref a_o_present_favours, .ref a_o_present_wheel, .ref a_o_present_works])), (a_o_present_skills, .inl (cI, 36, .inl o_present_skills)), (a_o_present_places, .inl (cI, 6, .inl o_present_places)), (a_o_told, .inr (1, [.int o_told_trades, .int o_told_people, .ref a_o_told_needs, .ref a_o_told_yields, .ref a_o_told_skips, .ref a_o_told_skills, .ref a_o_told_places, .ref a_o_told_wheel, .int o_told_tradesEnded]))] → va_S A s.heap H locs → lv_has ls 4 [(0, .ref a_o), (1, .int l1), (2, .int l2), (3, .int l3)] → (∀ (H : Heap) (locs : List Loc) (ls : Array Slot), va_P (dC, dI) vwCl [(a_o, .inr (4, [.ref a_o_text, .ref a_o_tunes, .ref a_o_present, .ref a_o_ahead, .ref a_o_images, .ref a_o_kept, .ref a_o_order, .ref a_o_told, .ref a_o_draft, .long o_trace])), (a_o_present, .inr (3, [.int o_present_round, .int o_present_fell, .int o_present_ills, .ref a_o_present_skills, .ref a_o_present_places, .ref a_o_present_stores, .ref a_o_present_lacked, .ref a_o_present_helpers, .ref a_o_present_favours, .ref a_o_present_wheel, .ref a_o_present_works])), (a_o_present_skills, .inl (cI, 36, .inl o_present_skills)), (a_o_present_places, .inl (cI, 6, .inl o_present_places)), (a_o_told, .inr (1, [.int o_told_trades, .int o_told_people, .ref a_o_told_needs, .ref a_o_told_yields, .ref a_o_told_skips, .ref a_o_told_skills, .ref a_o_told_places, .ref a_o_told_wheel, .int o_told_tradesEnded]))] H → va_D A [(a_o, .inr (4, [.ref a_o_text, .ref a_o_tunes, .ref a_o_present, .ref a_o_ahead, .ref a_o_images, .ref a_o_kept, .ref a_o_order, .ref a_o_told, .ref a_o_draft, .long o_trace])), (a_o_present, .inr (3, [.int o_present_round, .int o_present_fell, .int o_present_ills, .ref a_o_present_skills, .ref a_o_present_places, .ref a_o_present_stores, .ref a_o_present_lacked, .ref a_o_present_helpers, .ref a_o_present_favours, .ref a_o_present_wheel, .ref a_o_present_works])), (a_o_present_skills, .inl (cI, 36, .inl o_present_skills)), (a_o_present_places, .inl (cI, 6, .inl o_present_places)), (a_o_told, .inr (1, [.int o_told_trades, .int o_told_people, .ref a_o_told_needs, .ref a_o_told_yields, .ref a_o_told_skips, .ref a_o_told_skills, .ref a_o_told_places, .ref a_o_told_wheel, .int o_told_tradesEnded]))] → va_S A s.heap H locs → lv_has ls 4 [(0, .ref a_o), (1, .int l1), (2, .int l2')] → W p l e (headSpec wsX4_asChild rmX4_asChild).room s m args below meth c H locs 0 0 Q (F0 m 66 ls [])) → W p l e (headSpec wsX4_asChild rmX4_asChild).room s m args below meth c H locs 0 0 Q (F0 m 31 ls []) := by
  obtain ⟨hx, hb, hr, hml, hown, hts, hlocks, hA, hK, hN⟩ := id hg0
  have hF : CallFix p m c cX4_asChild 4 s args wsX4_asChild RX4 := ⟨hx, hb, hml, hown, hts⟩
  intro n
  induction n with
  | zero =>
    intro l2 l3 l2' l3' hf
    have hf := fX4_asChild_31_0.symm.trans hf
    cases hf
  | succ n ih =>
    intro l2 l3 l2' l3' hf H locs ls hP hD hS hl kx
    have hf := fX4_asChild_31_s.symm.trans hf
    refine lv_iload_n hx hb dX4_asChild_31 rfl (lv_at hl 3 rfl) ?_
    refine lv_aload_n hx hb dX4_asChild_32 rfl (lv_at hl 0 rfl) ?_
    refine va_get (D := (dC, dI)) (ci := 4) (v := .ref a_o_told) (C := RX4) (T := TX4) (N := 10) hx hb hts uX4_asChild_X4 hown hK hP 0 rfl rfl 7 (by decide) (hts _ mX4_asChild_2) (fun _ h9 => h9) rfl dX4_asChild_33 ?_
    refine va_get (D := (dC, dI)) (ci := 1) (v := .int o_told_trades) (C := RX1) (T := TX1) (N := 9) hx hb hts uX4_asChild_X1 hown hK hP 4 rfl rfl 0 (by decide) (hts _ mX4_asChild_3) (fun _ h9 => h9) rfl dX4_asChild_36 ?_
    refine lv_icmp_ge (tgt := 66) hx hb dX4_asChild_39 (by decide) (fun c_1 => ?_) (fun c_1 => ?_)
    · have hf := pit hf c_1
      have q0 := Option.some.inj hf
      obtain ⟨e0, q1⟩ := Prod.mk.inj q0
      subst e0
      subst q1
      exact kx _ _ _ hP hD hS (lv_sub hl [0, 1, 2] rfl)
    · have hf := pif hf c_1
      refine lv_iload_n hx hb dX4_asChild_42 rfl (lv_at hl 2 rfl) ?_
      refine lv_aload_n hx hb dX4_asChild_43 rfl (lv_at hl 0 rfl) ?_
      refine va_get (D := (dC, dI)) (ci := 4) (v := .ref a_o_present) (C := RX4) (T := TX4) (N := 10) hx hb hts uX4_asChild_X4 hown hK hP 0 rfl rfl 2 (by decide) (hts _ mX4_asChild_4) (fun _ h9 => h9) rfl dX4_asChild_44 ?_
      refine va_get (D := (dC, dI)) (ci := 3) (v := .ref a_o_present_skills) (C := RX3) (T := TX3) (N := 11) hx hb hts uX4_asChild_X3 hown hK hP 1 rfl rfl 3 (by decide) (hts _ mX4_asChild_5) (fun _ h9 => h9) rfl dX4_asChild_47 ?_
      refine lv_iload_n hx hb dX4_asChild_50 rfl (lv_at hl 1 rfl) ?_
      refine lv_iload_n hx hb dX4_asChild_51 rfl (lv_at hl 3 rfl) ?_
      obtain ⟨r_2, hc, hf⟩ := pb1 hf
      refine gCi (va_runS (As := [.int l1, .int l3]) (rest := [.ref a_o_present_skills, .int l2]) hF (kX4_cell l dC dI Z cC cI cZ cW  _  l1 l3 N r_2 hc) (cwS 2 hts gX4_asChild_X4_cell rfl rfl rfl (by decide +kernel) ⟨Nat.le_of_ble_eq_true rfl, Nat.le_of_ble_eq_true rfl⟩) (gPS (wc := []) hK hN hA hS hP hD [] rfl rfl) rfl rfl hl.1 rfl (lv_room (Nat.le_of_ble_eq_true rfl)) dX4_asChild_52 ⟨Nat.zero_le _, Nat.zero_le _⟩) hP hD hS hA [] rfl rfl rfl (fun H locs hP hD hS => ?_)
      have hP : va_P (dC, dI) vwCl [(a_o, .inr (4, [.ref a_o_text, .ref a_o_tunes, .ref a_o_present, .ref a_o_ahead, .ref a_o_images, .ref a_o_kept, .ref a_o_order, .ref a_o_told, .ref a_o_draft, .long o_trace])), (a_o_present, .inr (3, [.int o_present_round, .int o_present_fell, .int o_present_ills, .ref a_o_present_skills, .ref a_o_present_places, .ref a_o_present_stores, .ref a_o_present_lacked, .ref a_o_present_helpers, .ref a_o_present_favours, .ref a_o_present_wheel, .ref a_o_present_works])), (a_o_present_skills, .inl (cI, 36, .inl o_present_skills)), (a_o_present_places, .inl (cI, 6, .inl o_present_places)), (a_o_told, .inr (1, [.int o_told_trades, .int o_told_people, .ref a_o_told_needs, .ref a_o_told_yields, .ref a_o_told_skips, .ref a_o_told_skills, .ref a_o_told_places, .ref a_o_told_wheel, .int o_told_tradesEnded]))] H := hP
      have hD : va_D A [(a_o, .inr (4, [.ref a_o_text, .ref a_o_tunes, .ref a_o_present, .ref a_o_ahead, .ref a_o_images, .ref a_o_kept, .ref a_o_order, .ref a_o_told, .ref a_o_draft, .long o_trace])), (a_o_present, .inr (3, [.int o_present_round, .int o_present_fell, .int o_present_ills, .ref a_o_present_skills, .ref a_o_present_places, .ref a_o_present_stores, .ref a_o_present_lacked, .ref a_o_present_helpers, .ref a_o_present_favours, .ref a_o_present_wheel, .ref a_o_present_works])), (a_o_present_skills, .inl (cI, 36, .inl o_present_skills)), (a_o_present_places, .inl (cI, 6, .inl o_present_places)), (a_o_told, .inr (1, [.int o_told_trades, .int o_told_people, .ref a_o_told_needs, .ref a_o_told_yields, .ref a_o_told_skips, .ref a_o_told_skills, .ref a_o_told_places, .ref a_o_told_wheel, .int o_told_tradesEnded]))] := hD
      obtain ⟨h_3, hf⟩ := pgd hf
      refine va_iald hx hb hK hP 2 1 rfl rfl h_3 dX4_asChild_55 ?_
      refine va_mmin hx hb (hml.trans hl.1.symm) hown (hts _ mX4_asChild_6) (hts _ mX4_asChild_7) (hts _ mX4_asChild_8) (hts _ mX4_asChild_9) (Nat.le_of_ble_eq_true rfl) (Nat.le_of_ble_eq_true rfl) (Nat.zero_le _) (Nat.zero_le _) dX4_asChild_56 ?_
      refine lv_istore_n (lv' := [(2, .int (if (o_present_skills r_2.toNatClampNeg) < l2 then (o_present_skills r_2.toNatClampNeg) else l2)), (0, .ref a_o), (1, .int l1), (3, .int l3)]) hx hb dX4_asChild_59 rfl hl (by decide) rfl (fun ls hl => ?_)
      refine lv_iinc (v := (l3 + 1)) (lv' := [(3, .int (l3 + 1)), (2, .int (if (o_present_skills r_2.toNatClampNeg) < l2 then (o_present_skills r_2.toNatClampNeg) else l2)), (0, .ref a_o), (1, .int l1)]) hx hb dX4_asChild_60 hl (k := 3) rfl rfl (by decide) rfl (fun ls hl => ?_)
      refine lv_goto (tgt := 31) hx hb dX4_asChild_63 (by decide) ?_
      exact ih _ _ _ _ hf _ _ _ hP hD hS (lv_sub hl [2, 3, 1, 0] rfl) kx
set_option maxHeartbeats 4000000 in
set_option maxRecDepth 100000 in
theorem kX4_asChild (l : Launch) (dC : Nat → ClassId) (dI : Nat → Nat → Nat) (Z : gZ) (cC cI cZ cW : ClassId) (a_o a_o_text a_o_tunes a_o_present a_o_ahead a_o_images a_o_kept a_o_order a_o_told a_o_draft a_o_present_skills a_o_present_places a_o_present_stores a_o_present_lacked a_o_present_helpers a_o_present_favours a_o_present_wheel a_o_present_works a_o_told_needs a_o_told_yields a_o_told_skips a_o_told_skills a_o_told_places a_o_told_wheel : Nat) (sz : Nat) (o_trace : Int64) (o_present_round : Int32) (o_present_fell : Int32) (o_present_ills : Int32) (o_present_skills : Nat → Int32) (o_present_places : Nat → Int32) (o_told_trades : Int32) (o_told_people : Int32) (o_told_tradesEnded : Int32) (i1 : Int32) (N : Nat) (r' : Int32) (o_trace' : Int64) (hf : fX4_asChild N o_trace o_present_skills o_present_places o_told_trades  i1 = some (r', o_trace')) : Met l yX4_asChild wsX4_asChild rmX4_asChild (va_Pc [.ref a_o, .int i1] (gB (dC, dI) Z [(cC, .char), (cI, .int), (cZ, .boolean), (cW, .object RX3)] [(a_o, .inr (4, [.ref a_o_text, .ref a_o_tunes, .ref a_o_present, .ref a_o_ahead, .ref a_o_images, .ref a_o_kept, .ref a_o_order, .ref a_o_told, .ref a_o_draft, .long o_trace])), (a_o_present, .inr (3, [.int o_present_round, .int o_present_fell, .int o_present_ills, .ref a_o_present_skills, .ref a_o_present_places, .ref a_o_present_stores, .ref a_o_present_lacked, .ref a_o_present_helpers, .ref a_o_present_favours, .ref a_o_present_wheel, .ref a_o_present_works])), (a_o_present_skills, .inl (cI, 36, .inl o_present_skills)), (a_o_present_places, .inl (cI, 6, .inl o_present_places)), (a_o_told, .inr (1, [.int o_told_trades, .int o_told_people, .ref a_o_told_needs, .ref a_o_told_yields, .ref a_o_told_skips, .ref a_o_told_skills, .ref a_o_told_places, .ref a_o_told_wheel, .int o_told_tradesEnded]))] sz)) (va_Qi (fun (r : Int32) (_ : Unit) => r = r') (gE (dC, dI) [(a_o, .inr (4, [.ref a_o_text, .ref a_o_tunes, .ref a_o_present, .ref a_o_ahead, .ref a_o_images, .ref a_o_kept, .ref a_o_order, .ref a_o_told, .ref a_o_draft, .long o_trace'])), (a_o_present, .inr (3, [.int o_present_round, .int o_present_fell, .int o_present_ills, .ref a_o_present_skills, .ref a_o_present_places, .ref a_o_present_stores, .ref a_o_present_lacked, .ref a_o_present_helpers, .ref a_o_present_favours, .ref a_o_present_wheel, .ref a_o_present_works])), (a_o_present_skills, .inl (cI, 36, .inl o_present_skills)), (a_o_present_places, .inl (cI, 6, .inl o_present_places)), (a_o_told, .inr (1, [.int o_told_trades, .int o_told_people, .ref a_o_told_needs, .ref a_o_told_yields, .ref a_o_told_skips, .ref a_o_told_skills, .ref a_o_told_places, .ref a_o_told_wheel, .int o_told_tradesEnded]))]) (va_A [(a_o, .inr (4, [.ref a_o_text, .ref a_o_tunes, .ref a_o_present, .ref a_o_ahead, .ref a_o_images, .ref a_o_kept, .ref a_o_order, .ref a_o_told, .ref a_o_draft, .long o_trace])), (a_o_present, .inr (3, [.int o_present_round, .int o_present_fell, .int o_present_ills, .ref a_o_present_skills, .ref a_o_present_places, .ref a_o_present_stores, .ref a_o_present_lacked, .ref a_o_present_helpers, .ref a_o_present_favours, .ref a_o_present_wheel, .ref a_o_present_works])), (a_o_present_skills, .inl (cI, 36, .inl o_present_skills)), (a_o_present_places, .inl (cI, 6, .inl o_present_places)), (a_o_told, .inr (1, [.int o_told_trades, .int o_told_people, .ref a_o_told_needs, .ref a_o_told_yields, .ref a_o_told_skips, .ref a_o_told_skills, .ref a_o_told_places, .ref a_o_told_wheel, .int o_told_tradesEnded]))] sz)) 0 0 (va_A [(a_o, .inr (4, [.ref a_o_text, .ref a_o_tunes, .ref a_o_present, .ref a_o_ahead, .ref a_o_images, .ref a_o_kept, .ref a_o_order, .ref a_o_told, .ref a_o_draft, .long o_trace])), (a_o_present, .inr (3, [.int o_present_round, .int o_present_fell, .int o_present_ills, .ref a_o_present_skills, .ref a_o_present_places, .ref a_o_present_stores, .ref a_o_present_lacked, .ref a_o_present_helpers, .ref a_o_present_favours, .ref a_o_present_wheel, .ref a_o_present_works])), (a_o_present_skills, .inl (cI, 36, .inl o_present_skills)), (a_o_present_places, .inl (cI, 6, .inl o_present_places)), (a_o_told, .inr (1, [.int o_told_trades, .int o_told_people, .ref a_o_told_needs, .ref a_o_told_yields, .ref a_o_told_skips, .ref a_o_told_skills, .ref a_o_told_places, .ref a_o_told_wheel, .int o_told_tradesEnded]))] sz) := by
  refine gMet (cc := cX4_asChild) (maxL := 4) (ret := (some .int)) (Qc := fun A => va_Qi (fun (r : Int32) (_ : Unit) => r = r') (gE (dC, dI) [(a_o, .inr (4, [.ref a_o_text, .ref a_o_tunes, .ref a_o_present, .ref a_o_ahead, .ref a_o_images, .ref a_o_kept, .ref a_o_order, .ref a_o_told, .ref a_o_draft, .long o_trace'])), (a_o_present, .inr (3, [.int o_present_round, .int o_present_fell, .int o_present_ills, .ref a_o_present_skills, .ref a_o_present_places, .ref a_o_present_stores, .ref a_o_present_lacked, .ref a_o_present_helpers, .ref a_o_present_favours, .ref a_o_present_wheel, .ref a_o_present_works])), (a_o_present_skills, .inl (cI, 36, .inl o_present_skills)), (a_o_present_places, .inl (cI, 6, .inl o_present_places)), (a_o_told, .inr (1, [.int o_told_trades, .int o_told_people, .ref a_o_told_needs, .ref a_o_told_yields, .ref a_o_told_skips, .ref a_o_told_skills, .ref a_o_told_places, .ref a_o_told_wheel, .int o_told_tradesEnded]))]) A) (by decide) rfl (Nat.le_of_ble_eq_true rfl) ?_
  intro p e s m below meth c A ls hg0 _ hsz hP hD hS hl
  have hg0 : gX p s m _ meth c cX4_asChild 4 (some .int) wsX4_asChild RX4 (dC, dI) Z [(cC, .char), (cI, .int), (cZ, .boolean), (cW, .object RX3)] A := hg0
  obtain ⟨hx, hb, hr, hml, hown, hts, hlocks, hA, hK, hN⟩ := id hg0
  subst hsz
  have hF : CallFix p m c cX4_asChild 4 s _ wsX4_asChild RX4 := ⟨hx, hb, hml, hown, hts⟩
  have hl : lv_has ls 4 [(0, .ref a_o), (1, .int i1)] := hl
  unfold fX4_asChild at hf
  refine lv_aload_n hx hb dX4_asChild_0 rfl (lv_at hl 0 rfl) ?_
  refine lv_dup hx hb dX4_asChild_1 rfl ?_
  refine va_get (D := (dC, dI)) (ci := 4) (v := .long o_trace) (C := RX4) (T := TX4) (N := 10) hx hb hts uX4_asChild_X4 hown hK hP 0 rfl rfl 9 (by decide) (hts _ mX4_asChild_0) (fun _ h9 => h9) rfl dX4_asChild_2 ?_
  refine lv_ldc2 (v := (10000 : Int64)) hx hb hown (hts _ mX4_asChild_1) dX4_asChild_5 ?_
  refine lv_ladd hx hb dX4_asChild_8 ?_
  refine lv_topl (fun tl_1 etl_1 => ?_)
  rw [← etl_1] at hf
  refine va_put (D := (dC, dI)) (ci := 4) (v := .long tl_1) (ty := .long) (C := RX4) (T := TX4) (N := 10) hx hb hts uX4_asChild_X4 tyX4 tyX4_ok nmX4 hown hK hP hD hS 0 rfl rfl 9 (by decide) (hts _ mX4_asChild_0) (fun _ h9 => h9) rfl (by decide +kernel) rfl rfl (Nat.le_of_ble_eq_true rfl) dX4_asChild_9 (fun H locs hP hD hS => ?_)
  have hP : va_P (dC, dI) vwCl [(a_o, .inr (4, [.ref a_o_text, .ref a_o_tunes, .ref a_o_present, .ref a_o_ahead, .ref a_o_images, .ref a_o_kept, .ref a_o_order, .ref a_o_told, .ref a_o_draft, .long tl_1])), (a_o_present, .inr (3, [.int o_present_round, .int o_present_fell, .int o_present_ills, .ref a_o_present_skills, .ref a_o_present_places, .ref a_o_present_stores, .ref a_o_present_lacked, .ref a_o_present_helpers, .ref a_o_present_favours, .ref a_o_present_wheel, .ref a_o_present_works])), (a_o_present_skills, .inl (cI, 36, .inl o_present_skills)), (a_o_present_places, .inl (cI, 6, .inl o_present_places)), (a_o_told, .inr (1, [.int o_told_trades, .int o_told_people, .ref a_o_told_needs, .ref a_o_told_yields, .ref a_o_told_skips, .ref a_o_told_skills, .ref a_o_told_places, .ref a_o_told_wheel, .int o_told_tradesEnded]))] H := hP
  have hD : va_D A [(a_o, .inr (4, [.ref a_o_text, .ref a_o_tunes, .ref a_o_present, .ref a_o_ahead, .ref a_o_images, .ref a_o_kept, .ref a_o_order, .ref a_o_told, .ref a_o_draft, .long tl_1])), (a_o_present, .inr (3, [.int o_present_round, .int o_present_fell, .int o_present_ills, .ref a_o_present_skills, .ref a_o_present_places, .ref a_o_present_stores, .ref a_o_present_lacked, .ref a_o_present_helpers, .ref a_o_present_favours, .ref a_o_present_wheel, .ref a_o_present_works])), (a_o_present_skills, .inl (cI, 36, .inl o_present_skills)), (a_o_present_places, .inl (cI, 6, .inl o_present_places)), (a_o_told, .inr (1, [.int o_told_trades, .int o_told_people, .ref a_o_told_needs, .ref a_o_told_yields, .ref a_o_told_skips, .ref a_o_told_skills, .ref a_o_told_places, .ref a_o_told_wheel, .int o_told_tradesEnded]))] := hD
  refine lv_aload_n hx hb dX4_asChild_12 rfl (lv_at hl 0 rfl) ?_
  refine va_get (D := (dC, dI)) (ci := 4) (v := .ref a_o_told) (C := RX4) (T := TX4) (N := 10) hx hb hts uX4_asChild_X4 hown hK hP 0 rfl rfl 7 (by decide) (hts _ mX4_asChild_2) (fun _ h9 => h9) rfl dX4_asChild_13 ?_
  refine va_get (D := (dC, dI)) (ci := 1) (v := .int o_told_trades) (C := RX1) (T := TX1) (N := 9) hx hb hts uX4_asChild_X1 hown hK hP 4 rfl rfl 0 (by decide) (hts _ mX4_asChild_3) (fun _ h9 => h9) rfl dX4_asChild_16 ?_
  refine lv_if_ne (tgt := 26) hx hb dX4_asChild_19 (by decide) (fun c_2 => ?_) (fun c_2 => ?_)
  · have hf := pif hf c_2
    refine lv_bipush (v := (9 : Int32)) hx hb dX4_asChild_26 (by decide) ?_
    refine lv_istore_n (lv' := [(2, .int (9 : Int32)), (0, .ref a_o), (1, .int i1)]) hx hb dX4_asChild_28 rfl hl (by decide) rfl (fun ls hl => ?_)
    refine lv_iconst (v := (0 : Int32)) hx hb dX4_asChild_29 (by decide) ?_
    refine lv_istore_n (lv' := [(3, .int (0 : Int32)), (2, .int (9 : Int32)), (0, .ref a_o), (1, .int i1)]) hx hb dX4_asChild_30 rfl hl (by decide) rfl (fun ls hl => ?_)
    obtain ⟨l2_3, l3_4, hc, hf⟩ := pb2 hf
    refine wX4_asChild_31 hg0 a_o a_o_text a_o_tunes a_o_present a_o_ahead a_o_images a_o_kept a_o_order a_o_told a_o_draft a_o_present_skills a_o_present_places a_o_present_stores a_o_present_lacked a_o_present_helpers a_o_present_favours a_o_present_wheel a_o_present_works a_o_told_needs a_o_told_yields a_o_told_skips a_o_told_skills a_o_told_places a_o_told_wheel tl_1 o_present_round o_present_fell o_present_ills o_present_skills o_present_places o_told_trades o_told_people o_told_tradesEnded i1 N N (9 : Int32) (0 : Int32) l2_3 l3_4 hc _ _ _ hP hD hS (lv_sub hl [2, 3, 1, 0] rfl) (fun H locs ls hP hD hS hl => ?_)
    refine lv_aload_n hx hb dX4_asChild_66 rfl (lv_at hl 0 rfl) ?_
    refine lv_iload_n hx hb dX4_asChild_67 rfl (lv_at hl 1 rfl) ?_
    obtain ⟨r_5, o_trace_6, hc, hf⟩ := pb2 hf
    refine gCi (va_runV (As := [.int i1]) (rest := []) hF (kX4_asLearner l dC dI Z cC cI cZ cW a_o a_o_text a_o_tunes a_o_present a_o_ahead a_o_images a_o_kept a_o_order a_o_told a_o_draft a_o_present_skills a_o_present_places a_o_present_stores a_o_present_lacked a_o_present_helpers a_o_present_favours a_o_present_wheel a_o_present_works a_o_told_needs a_o_told_yields a_o_told_skips a_o_told_skills a_o_told_places a_o_told_wheel _ tl_1 o_present_round o_present_fell o_present_ills o_present_skills o_present_places o_told_trades o_told_people o_told_tradesEnded i1 N r_5 o_trace_6 hc) (cwV 1 hts gX4_asChild_X4_asLearner rfl rfl rfl (by decide +kernel) ⟨Nat.le_of_ble_eq_true rfl, Nat.le_of_ble_eq_true rfl⟩) (gPV (wc := [(a_o, .inr (4, [.ref a_o_text, .ref a_o_tunes, .ref a_o_present, .ref a_o_ahead, .ref a_o_images, .ref a_o_kept, .ref a_o_order, .ref a_o_told, .ref a_o_draft, .long tl_1])), (a_o_present, .inr (3, [.int o_present_round, .int o_present_fell, .int o_present_ills, .ref a_o_present_skills, .ref a_o_present_places, .ref a_o_present_stores, .ref a_o_present_lacked, .ref a_o_present_helpers, .ref a_o_present_favours, .ref a_o_present_wheel, .ref a_o_present_works])), (a_o_present_skills, .inl (cI, 36, .inl o_present_skills)), (a_o_present_places, .inl (cI, 6, .inl o_present_places)), (a_o_told, .inr (1, [.int o_told_trades, .int o_told_people, .ref a_o_told_needs, .ref a_o_told_yields, .ref a_o_told_skips, .ref a_o_told_skills, .ref a_o_told_places, .ref a_o_told_wheel, .int o_told_tradesEnded]))]) hK hN hA hS hP hD [0, 1, 2, 3, 4] rfl rfl (q0 := 0) (ci := 4) rfl rfl rfl) rfl rfl hl.1 rfl (lv_room (Nat.le_of_ble_eq_true rfl)) dX4_asChild_68 ⟨Nat.zero_le _, Nat.zero_le _⟩) hP hD hS hA [0, 1, 2, 3, 4] rfl rfl rfl (fun H locs hP hD hS => ?_)
    have hP : va_P (dC, dI) vwCl [(a_o, .inr (4, [.ref a_o_text, .ref a_o_tunes, .ref a_o_present, .ref a_o_ahead, .ref a_o_images, .ref a_o_kept, .ref a_o_order, .ref a_o_told, .ref a_o_draft, .long o_trace_6])), (a_o_present, .inr (3, [.int o_present_round, .int o_present_fell, .int o_present_ills, .ref a_o_present_skills, .ref a_o_present_places, .ref a_o_present_stores, .ref a_o_present_lacked, .ref a_o_present_helpers, .ref a_o_present_favours, .ref a_o_present_wheel, .ref a_o_present_works])), (a_o_present_skills, .inl (cI, 36, .inl o_present_skills)), (a_o_present_places, .inl (cI, 6, .inl o_present_places)), (a_o_told, .inr (1, [.int o_told_trades, .int o_told_people, .ref a_o_told_needs, .ref a_o_told_yields, .ref a_o_told_skips, .ref a_o_told_skills, .ref a_o_told_places, .ref a_o_told_wheel, .int o_told_tradesEnded]))] H := hP
    have hD : va_D A [(a_o, .inr (4, [.ref a_o_text, .ref a_o_tunes, .ref a_o_present, .ref a_o_ahead, .ref a_o_images, .ref a_o_kept, .ref a_o_order, .ref a_o_told, .ref a_o_draft, .long o_trace_6])), (a_o_present, .inr (3, [.int o_present_round, .int o_present_fell, .int o_present_ills, .ref a_o_present_skills, .ref a_o_present_places, .ref a_o_present_stores, .ref a_o_present_lacked, .ref a_o_present_helpers, .ref a_o_present_favours, .ref a_o_present_wheel, .ref a_o_present_works])), (a_o_present_skills, .inl (cI, 36, .inl o_present_skills)), (a_o_present_places, .inl (cI, 6, .inl o_present_places)), (a_o_told, .inr (1, [.int o_told_trades, .int o_told_people, .ref a_o_told_needs, .ref a_o_told_yields, .ref a_o_told_skips, .ref a_o_told_skills, .ref a_o_told_places, .ref a_o_told_wheel, .int o_told_tradesEnded]))] := hD
    refine lv_iload_n hx hb dX4_asChild_71 rfl (lv_at hl 2 rfl) ?_
    refine lv_isub hx hb dX4_asChild_72 ?_
    have q0 := Option.some.inj hf
    obtain ⟨e0, q1⟩ := Prod.mk.inj q0
    subst e0
    subst q1
    exact gRi hx hb hr hlocks hP hS dX4_asChild_73
  · have hf := pit hf c_2
    refine lv_iconst (v := (0 : Int32)) hx hb dX4_asChild_22 (by decide) ?_
    refine lv_goto (tgt := 28) hx hb dX4_asChild_23 (by decide) ?_
    refine lv_istore_n (lv' := [(2, .int (0 : Int32)), (0, .ref a_o), (1, .int i1)]) hx hb dX4_asChild_28 rfl hl (by decide) rfl (fun ls hl => ?_)
    refine lv_iconst (v := (0 : Int32)) hx hb dX4_asChild_29 (by decide) ?_
    refine lv_istore_n (lv' := [(3, .int (0 : Int32)), (2, .int (0 : Int32)), (0, .ref a_o), (1, .int i1)]) hx hb dX4_asChild_30 rfl hl (by decide) rfl (fun ls hl => ?_)
    obtain ⟨l2_7, l3_8, hc, hf⟩ := pb2 hf
    refine wX4_asChild_31 hg0 a_o a_o_text a_o_tunes a_o_present a_o_ahead a_o_images a_o_kept a_o_order a_o_told a_o_draft a_o_present_skills a_o_present_places a_o_present_stores a_o_present_lacked a_o_present_helpers a_o_present_favours a_o_present_wheel a_o_present_works a_o_told_needs a_o_told_yields a_o_told_skips a_o_told_skills a_o_told_places a_o_told_wheel tl_1 o_present_round o_present_fell o_present_ills o_present_skills o_present_places o_told_trades o_told_people o_told_tradesEnded i1 N N (0 : Int32) (0 : Int32) l2_7 l3_8 hc _ _ _ hP hD hS (lv_sub hl [2, 3, 1, 0] rfl) (fun H locs ls hP hD hS hl => ?_)
    refine lv_aload_n hx hb dX4_asChild_66 rfl (lv_at hl 0 rfl) ?_
    refine lv_iload_n hx hb dX4_asChild_67 rfl (lv_at hl 1 rfl) ?_
    obtain ⟨r_9, o_trace_10, hc, hf⟩ := pb2 hf
    refine gCi (va_runV (As := [.int i1]) (rest := []) hF (kX4_asLearner l dC dI Z cC cI cZ cW a_o a_o_text a_o_tunes a_o_present a_o_ahead a_o_images a_o_kept a_o_order a_o_told a_o_draft a_o_present_skills a_o_present_places a_o_present_stores a_o_present_lacked a_o_present_helpers a_o_present_favours a_o_present_wheel a_o_present_works a_o_told_needs a_o_told_yields a_o_told_skips a_o_told_skills a_o_told_places a_o_told_wheel _ tl_1 o_present_round o_present_fell o_present_ills o_present_skills o_present_places o_told_trades o_told_people o_told_tradesEnded i1 N r_9 o_trace_10 hc) (cwV 1 hts gX4_asChild_X4_asLearner rfl rfl rfl (by decide +kernel) ⟨Nat.le_of_ble_eq_true rfl, Nat.le_of_ble_eq_true rfl⟩) (gPV (wc := [(a_o, .inr (4, [.ref a_o_text, .ref a_o_tunes, .ref a_o_present, .ref a_o_ahead, .ref a_o_images, .ref a_o_kept, .ref a_o_order, .ref a_o_told, .ref a_o_draft, .long tl_1])), (a_o_present, .inr (3, [.int o_present_round, .int o_present_fell, .int o_present_ills, .ref a_o_present_skills, .ref a_o_present_places, .ref a_o_present_stores, .ref a_o_present_lacked, .ref a_o_present_helpers, .ref a_o_present_favours, .ref a_o_present_wheel, .ref a_o_present_works])), (a_o_present_skills, .inl (cI, 36, .inl o_present_skills)), (a_o_present_places, .inl (cI, 6, .inl o_present_places)), (a_o_told, .inr (1, [.int o_told_trades, .int o_told_people, .ref a_o_told_needs, .ref a_o_told_yields, .ref a_o_told_skips, .ref a_o_told_skills, .ref a_o_told_places, .ref a_o_told_wheel, .int o_told_tradesEnded]))]) hK hN hA hS hP hD [0, 1, 2, 3, 4] rfl rfl (q0 := 0) (ci := 4) rfl rfl rfl) rfl rfl hl.1 rfl (lv_room (Nat.le_of_ble_eq_true rfl)) dX4_asChild_68 ⟨Nat.zero_le _, Nat.zero_le _⟩) hP hD hS hA [0, 1, 2, 3, 4] rfl rfl rfl (fun H locs hP hD hS => ?_)
    have hP : va_P (dC, dI) vwCl [(a_o, .inr (4, [.ref a_o_text, .ref a_o_tunes, .ref a_o_present, .ref a_o_ahead, .ref a_o_images, .ref a_o_kept, .ref a_o_order, .ref a_o_told, .ref a_o_draft, .long o_trace_10])), (a_o_present, .inr (3, [.int o_present_round, .int o_present_fell, .int o_present_ills, .ref a_o_present_skills, .ref a_o_present_places, .ref a_o_present_stores, .ref a_o_present_lacked, .ref a_o_present_helpers, .ref a_o_present_favours, .ref a_o_present_wheel, .ref a_o_present_works])), (a_o_present_skills, .inl (cI, 36, .inl o_present_skills)), (a_o_present_places, .inl (cI, 6, .inl o_present_places)), (a_o_told, .inr (1, [.int o_told_trades, .int o_told_people, .ref a_o_told_needs, .ref a_o_told_yields, .ref a_o_told_skips, .ref a_o_told_skills, .ref a_o_told_places, .ref a_o_told_wheel, .int o_told_tradesEnded]))] H := hP
    have hD : va_D A [(a_o, .inr (4, [.ref a_o_text, .ref a_o_tunes, .ref a_o_present, .ref a_o_ahead, .ref a_o_images, .ref a_o_kept, .ref a_o_order, .ref a_o_told, .ref a_o_draft, .long o_trace_10])), (a_o_present, .inr (3, [.int o_present_round, .int o_present_fell, .int o_present_ills, .ref a_o_present_skills, .ref a_o_present_places, .ref a_o_present_stores, .ref a_o_present_lacked, .ref a_o_present_helpers, .ref a_o_present_favours, .ref a_o_present_wheel, .ref a_o_present_works])), (a_o_present_skills, .inl (cI, 36, .inl o_present_skills)), (a_o_present_places, .inl (cI, 6, .inl o_present_places)), (a_o_told, .inr (1, [.int o_told_trades, .int o_told_people, .ref a_o_told_needs, .ref a_o_told_yields, .ref a_o_told_skips, .ref a_o_told_skills, .ref a_o_told_places, .ref a_o_told_wheel, .int o_told_tradesEnded]))] := hD
    refine lv_iload_n hx hb dX4_asChild_71 rfl (lv_at hl 2 rfl) ?_
    refine lv_isub hx hb dX4_asChild_72 ?_
    have q0 := Option.some.inj hf
    obtain ⟨e0, q1⟩ := Prod.mk.inj q0
    subst e0
    subst q1
    exact gRi hx hb hr hlocks hP hS dX4_asChild_73
abbrev rmX4_asIdle : Room := { frames := 2, cells := 0, slots := 0, locals := 44 }
set_option maxRecDepth 20000 in
theorem uX4_asIdle_X3 : ∀ w ∈ wsX30, w ∈ wsX4_asIdle := by decide +kernel
set_option maxRecDepth 20000 in
theorem uX4_asIdle_X4 : ∀ w ∈ wsX40, w ∈ wsX4_asIdle := by decide +kernel
set_option maxRecDepth 20000 in
theorem mX4_asIdle_0 : (Cond.fieldLink RX4 55 "TradeWheel" "trace" "J" : Cond) ∈ wsX4_asIdle := by decide +kernel
set_option maxRecDepth 20000 in
theorem mX4_asIdle_1 : (Cond.constantLong RX4 268 (100000) : Cond) ∈ wsX4_asIdle := by decide +kernel
set_option maxRecDepth 20000 in
theorem mX4_asIdle_2 : (Cond.fieldLink RX4 26 "TradeWheel" "present" "LTradeWheel$World;" : Cond) ∈ wsX4_asIdle := by decide +kernel
set_option maxRecDepth 20000 in
theorem mX4_asIdle_3 : (Cond.fieldLink RX4 141 "TradeWheel$World" "round" "I" : Cond) ∈ wsX4_asIdle := by decide +kernel
set_option maxHeartbeats 4000000 in
set_option maxRecDepth 100000 in
theorem kX4_asIdle (l : Launch) (dC : Nat → ClassId) (dI : Nat → Nat → Nat) (Z : gZ) (cC cI cZ cW : ClassId) (a_o a_o_text a_o_tunes a_o_present a_o_ahead a_o_images a_o_kept a_o_order a_o_told a_o_draft a_o_present_skills a_o_present_places a_o_present_stores a_o_present_lacked a_o_present_helpers a_o_present_favours a_o_present_wheel a_o_present_works a_o_told_needs a_o_told_yields a_o_told_skips a_o_told_skills a_o_told_places a_o_told_wheel : Nat) (sz : Nat) (o_trace : Int64) (o_present_round : Int32) (o_present_fell : Int32) (o_present_ills : Int32) (o_present_skills : Nat → Int32) (o_told_trades : Int32) (o_told_people : Int32) (o_told_tradesEnded : Int32) (i1 : Int32) (N : Nat) (r' : Int32) (o_trace' : Int64) (hf : fX4_asIdle N o_trace o_present_round o_present_skills o_told_trades  i1 = some (r', o_trace')) : Met l yX4_asIdle wsX4_asIdle rmX4_asIdle (va_Pc [.ref a_o, .int i1] (gB (dC, dI) Z [(cC, .char), (cI, .int), (cZ, .boolean), (cW, .object RX3)] [(a_o, .inr (4, [.ref a_o_text, .ref a_o_tunes, .ref a_o_present, .ref a_o_ahead, .ref a_o_images, .ref a_o_kept, .ref a_o_order, .ref a_o_told, .ref a_o_draft, .long o_trace])), (a_o_present, .inr (3, [.int o_present_round, .int o_present_fell, .int o_present_ills, .ref a_o_present_skills, .ref a_o_present_places, .ref a_o_present_stores, .ref a_o_present_lacked, .ref a_o_present_helpers, .ref a_o_present_favours, .ref a_o_present_wheel, .ref a_o_present_works])), (a_o_present_skills, .inl (cI, 36, .inl o_present_skills)), (a_o_told, .inr (1, [.int o_told_trades, .int o_told_people, .ref a_o_told_needs, .ref a_o_told_yields, .ref a_o_told_skips, .ref a_o_told_skills, .ref a_o_told_places, .ref a_o_told_wheel, .int o_told_tradesEnded]))] sz)) (va_Qi (fun (r : Int32) (_ : Unit) => r = r') (gE (dC, dI) [(a_o, .inr (4, [.ref a_o_text, .ref a_o_tunes, .ref a_o_present, .ref a_o_ahead, .ref a_o_images, .ref a_o_kept, .ref a_o_order, .ref a_o_told, .ref a_o_draft, .long o_trace'])), (a_o_present, .inr (3, [.int o_present_round, .int o_present_fell, .int o_present_ills, .ref a_o_present_skills, .ref a_o_present_places, .ref a_o_present_stores, .ref a_o_present_lacked, .ref a_o_present_helpers, .ref a_o_present_favours, .ref a_o_present_wheel, .ref a_o_present_works])), (a_o_present_skills, .inl (cI, 36, .inl o_present_skills)), (a_o_told, .inr (1, [.int o_told_trades, .int o_told_people, .ref a_o_told_needs, .ref a_o_told_yields, .ref a_o_told_skips, .ref a_o_told_skills, .ref a_o_told_places, .ref a_o_told_wheel, .int o_told_tradesEnded]))]) (va_A [(a_o, .inr (4, [.ref a_o_text, .ref a_o_tunes, .ref a_o_present, .ref a_o_ahead, .ref a_o_images, .ref a_o_kept, .ref a_o_order, .ref a_o_told, .ref a_o_draft, .long o_trace])), (a_o_present, .inr (3, [.int o_present_round, .int o_present_fell, .int o_present_ills, .ref a_o_present_skills, .ref a_o_present_places, .ref a_o_present_stores, .ref a_o_present_lacked, .ref a_o_present_helpers, .ref a_o_present_favours, .ref a_o_present_wheel, .ref a_o_present_works])), (a_o_present_skills, .inl (cI, 36, .inl o_present_skills)), (a_o_told, .inr (1, [.int o_told_trades, .int o_told_people, .ref a_o_told_needs, .ref a_o_told_yields, .ref a_o_told_skips, .ref a_o_told_skills, .ref a_o_told_places, .ref a_o_told_wheel, .int o_told_tradesEnded]))] sz)) 0 0 (va_A [(a_o, .inr (4, [.ref a_o_text, .ref a_o_tunes, .ref a_o_present, .ref a_o_ahead, .ref a_o_images, .ref a_o_kept, .ref a_o_order, .ref a_o_told, .ref a_o_draft, .long o_trace])), (a_o_present, .inr (3, [.int o_present_round, .int o_present_fell, .int o_present_ills, .ref a_o_present_skills, .ref a_o_present_places, .ref a_o_present_stores, .ref a_o_present_lacked, .ref a_o_present_helpers, .ref a_o_present_favours, .ref a_o_present_wheel, .ref a_o_present_works])), (a_o_present_skills, .inl (cI, 36, .inl o_present_skills)), (a_o_told, .inr (1, [.int o_told_trades, .int o_told_people, .ref a_o_told_needs, .ref a_o_told_yields, .ref a_o_told_skips, .ref a_o_told_skills, .ref a_o_told_places, .ref a_o_told_wheel, .int o_told_tradesEnded]))] sz) := by
  refine gMet (cc := cX4_asIdle) (maxL := 2) (ret := (some .int)) (Qc := fun A => va_Qi (fun (r : Int32) (_ : Unit) => r = r') (gE (dC, dI) [(a_o, .inr (4, [.ref a_o_text, .ref a_o_tunes, .ref a_o_present, .ref a_o_ahead, .ref a_o_images, .ref a_o_kept, .ref a_o_order, .ref a_o_told, .ref a_o_draft, .long o_trace'])), (a_o_present, .inr (3, [.int o_present_round, .int o_present_fell, .int o_present_ills, .ref a_o_present_skills, .ref a_o_present_places, .ref a_o_present_stores, .ref a_o_present_lacked, .ref a_o_present_helpers, .ref a_o_present_favours, .ref a_o_present_wheel, .ref a_o_present_works])), (a_o_present_skills, .inl (cI, 36, .inl o_present_skills)), (a_o_told, .inr (1, [.int o_told_trades, .int o_told_people, .ref a_o_told_needs, .ref a_o_told_yields, .ref a_o_told_skips, .ref a_o_told_skills, .ref a_o_told_places, .ref a_o_told_wheel, .int o_told_tradesEnded]))]) A) (by decide) rfl (Nat.le_of_ble_eq_true rfl) ?_
  intro p e s m below meth c A ls hg0 _ hsz hP hD hS hl
  have hg0 : gX p s m _ meth c cX4_asIdle 2 (some .int) wsX4_asIdle RX4 (dC, dI) Z [(cC, .char), (cI, .int), (cZ, .boolean), (cW, .object RX3)] A := hg0
  obtain ⟨hx, hb, hr, hml, hown, hts, hlocks, hA, hK, hN⟩ := id hg0
  subst hsz
  have hF : CallFix p m c cX4_asIdle 2 s _ wsX4_asIdle RX4 := ⟨hx, hb, hml, hown, hts⟩
  have hl : lv_has ls 2 [(0, .ref a_o), (1, .int i1)] := hl
  unfold fX4_asIdle at hf
  refine lv_aload_n hx hb dX4_asIdle_0 rfl (lv_at hl 0 rfl) ?_
  refine lv_dup hx hb dX4_asIdle_1 rfl ?_
  refine va_get (D := (dC, dI)) (ci := 4) (v := .long o_trace) (C := RX4) (T := TX4) (N := 10) hx hb hts uX4_asIdle_X4 hown hK hP 0 rfl rfl 9 (by decide) (hts _ mX4_asIdle_0) (fun _ h9 => h9) rfl dX4_asIdle_2 ?_
  refine lv_ldc2 (v := (100000 : Int64)) hx hb hown (hts _ mX4_asIdle_1) dX4_asIdle_5 ?_
  refine lv_ladd hx hb dX4_asIdle_8 ?_
  refine lv_topl (fun tl_1 etl_1 => ?_)
  rw [← etl_1] at hf
  refine va_put (D := (dC, dI)) (ci := 4) (v := .long tl_1) (ty := .long) (C := RX4) (T := TX4) (N := 10) hx hb hts uX4_asIdle_X4 tyX4 tyX4_ok nmX4 hown hK hP hD hS 0 rfl rfl 9 (by decide) (hts _ mX4_asIdle_0) (fun _ h9 => h9) rfl (by decide +kernel) rfl rfl (Nat.le_of_ble_eq_true rfl) dX4_asIdle_9 (fun H locs hP hD hS => ?_)
  have hP : va_P (dC, dI) vwCl [(a_o, .inr (4, [.ref a_o_text, .ref a_o_tunes, .ref a_o_present, .ref a_o_ahead, .ref a_o_images, .ref a_o_kept, .ref a_o_order, .ref a_o_told, .ref a_o_draft, .long tl_1])), (a_o_present, .inr (3, [.int o_present_round, .int o_present_fell, .int o_present_ills, .ref a_o_present_skills, .ref a_o_present_places, .ref a_o_present_stores, .ref a_o_present_lacked, .ref a_o_present_helpers, .ref a_o_present_favours, .ref a_o_present_wheel, .ref a_o_present_works])), (a_o_present_skills, .inl (cI, 36, .inl o_present_skills)), (a_o_told, .inr (1, [.int o_told_trades, .int o_told_people, .ref a_o_told_needs, .ref a_o_told_yields, .ref a_o_told_skips, .ref a_o_told_skills, .ref a_o_told_places, .ref a_o_told_wheel, .int o_told_tradesEnded]))] H := hP
  have hD : va_D A [(a_o, .inr (4, [.ref a_o_text, .ref a_o_tunes, .ref a_o_present, .ref a_o_ahead, .ref a_o_images, .ref a_o_kept, .ref a_o_order, .ref a_o_told, .ref a_o_draft, .long tl_1])), (a_o_present, .inr (3, [.int o_present_round, .int o_present_fell, .int o_present_ills, .ref a_o_present_skills, .ref a_o_present_places, .ref a_o_present_stores, .ref a_o_present_lacked, .ref a_o_present_helpers, .ref a_o_present_favours, .ref a_o_present_wheel, .ref a_o_present_works])), (a_o_present_skills, .inl (cI, 36, .inl o_present_skills)), (a_o_told, .inr (1, [.int o_told_trades, .int o_told_people, .ref a_o_told_needs, .ref a_o_told_yields, .ref a_o_told_skips, .ref a_o_told_skills, .ref a_o_told_places, .ref a_o_told_wheel, .int o_told_tradesEnded]))] := hD
  refine lv_aload_n hx hb dX4_asIdle_12 rfl (lv_at hl 0 rfl) ?_
  refine lv_iload_n hx hb dX4_asIdle_13 rfl (lv_at hl 1 rfl) ?_
  obtain ⟨r_2, o_trace_3, hc, hf⟩ := pb2 hf
  refine gCi (va_runV (As := [.int i1]) (rest := []) hF (kX4_asPerson l dC dI Z cC cI cZ cW a_o a_o_text a_o_tunes a_o_present a_o_ahead a_o_images a_o_kept a_o_order a_o_told a_o_draft a_o_present_skills a_o_present_places a_o_present_stores a_o_present_lacked a_o_present_helpers a_o_present_favours a_o_present_wheel a_o_present_works a_o_told_needs a_o_told_yields a_o_told_skips a_o_told_skills a_o_told_places a_o_told_wheel _ tl_1 o_present_round o_present_fell o_present_ills o_present_skills o_told_trades o_told_people o_told_tradesEnded i1 N r_2 o_trace_3 hc) (cwV 1 hts gX4_asIdle_X4_asPerson rfl rfl rfl (by decide +kernel) ⟨Nat.le_of_ble_eq_true rfl, Nat.le_of_ble_eq_true rfl⟩) (gPV (wc := [(a_o, .inr (4, [.ref a_o_text, .ref a_o_tunes, .ref a_o_present, .ref a_o_ahead, .ref a_o_images, .ref a_o_kept, .ref a_o_order, .ref a_o_told, .ref a_o_draft, .long tl_1])), (a_o_present, .inr (3, [.int o_present_round, .int o_present_fell, .int o_present_ills, .ref a_o_present_skills, .ref a_o_present_places, .ref a_o_present_stores, .ref a_o_present_lacked, .ref a_o_present_helpers, .ref a_o_present_favours, .ref a_o_present_wheel, .ref a_o_present_works])), (a_o_present_skills, .inl (cI, 36, .inl o_present_skills)), (a_o_told, .inr (1, [.int o_told_trades, .int o_told_people, .ref a_o_told_needs, .ref a_o_told_yields, .ref a_o_told_skips, .ref a_o_told_skills, .ref a_o_told_places, .ref a_o_told_wheel, .int o_told_tradesEnded]))]) hK hN hA hS hP hD [0, 1, 2, 3] rfl rfl (q0 := 0) (ci := 4) rfl rfl rfl) rfl rfl hl.1 rfl (lv_room (Nat.le_of_ble_eq_true rfl)) dX4_asIdle_14 ⟨Nat.zero_le _, Nat.zero_le _⟩) hP hD hS hA [0, 1, 2, 3] rfl rfl rfl (fun H locs hP hD hS => ?_)
  have hP : va_P (dC, dI) vwCl [(a_o, .inr (4, [.ref a_o_text, .ref a_o_tunes, .ref a_o_present, .ref a_o_ahead, .ref a_o_images, .ref a_o_kept, .ref a_o_order, .ref a_o_told, .ref a_o_draft, .long o_trace_3])), (a_o_present, .inr (3, [.int o_present_round, .int o_present_fell, .int o_present_ills, .ref a_o_present_skills, .ref a_o_present_places, .ref a_o_present_stores, .ref a_o_present_lacked, .ref a_o_present_helpers, .ref a_o_present_favours, .ref a_o_present_wheel, .ref a_o_present_works])), (a_o_present_skills, .inl (cI, 36, .inl o_present_skills)), (a_o_told, .inr (1, [.int o_told_trades, .int o_told_people, .ref a_o_told_needs, .ref a_o_told_yields, .ref a_o_told_skips, .ref a_o_told_skills, .ref a_o_told_places, .ref a_o_told_wheel, .int o_told_tradesEnded]))] H := hP
  have hD : va_D A [(a_o, .inr (4, [.ref a_o_text, .ref a_o_tunes, .ref a_o_present, .ref a_o_ahead, .ref a_o_images, .ref a_o_kept, .ref a_o_order, .ref a_o_told, .ref a_o_draft, .long o_trace_3])), (a_o_present, .inr (3, [.int o_present_round, .int o_present_fell, .int o_present_ills, .ref a_o_present_skills, .ref a_o_present_places, .ref a_o_present_stores, .ref a_o_present_lacked, .ref a_o_present_helpers, .ref a_o_present_favours, .ref a_o_present_wheel, .ref a_o_present_works])), (a_o_present_skills, .inl (cI, 36, .inl o_present_skills)), (a_o_told, .inr (1, [.int o_told_trades, .int o_told_people, .ref a_o_told_needs, .ref a_o_told_yields, .ref a_o_told_skips, .ref a_o_told_skills, .ref a_o_told_places, .ref a_o_told_wheel, .int o_told_tradesEnded]))] := hD
  refine lv_aload_n hx hb dX4_asIdle_17 rfl (lv_at hl 0 rfl) ?_
  refine va_get (D := (dC, dI)) (ci := 4) (v := .ref a_o_present) (C := RX4) (T := TX4) (N := 10) hx hb hts uX4_asIdle_X4 hown hK hP 0 rfl rfl 2 (by decide) (hts _ mX4_asIdle_2) (fun _ h9 => h9) rfl dX4_asIdle_18 ?_
  refine va_get (D := (dC, dI)) (ci := 3) (v := .int o_present_round) (C := RX3) (T := TX3) (N := 11) hx hb hts uX4_asIdle_X3 hown hK hP 1 rfl rfl 0 (by decide) (hts _ mX4_asIdle_3) (fun _ h9 => h9) rfl dX4_asIdle_21 ?_
  refine lv_isub hx hb dX4_asIdle_24 ?_
  have q0 := Option.some.inj hf
  obtain ⟨e0, q1⟩ := Prod.mk.inj q0
  subst e0
  subst q1
  exact gRi hx hb hr hlocks hP hS dX4_asIdle_25
abbrev rmX4_asMaster : Room := { frames := 2, cells := 0, slots := 0, locals := 44 }
set_option maxRecDepth 20000 in
theorem uX4_asMaster_X1 : ∀ w ∈ wsX10, w ∈ wsX4_asMaster := by decide +kernel
set_option maxRecDepth 20000 in
theorem uX4_asMaster_X3 : ∀ w ∈ wsX30, w ∈ wsX4_asMaster := by decide +kernel
set_option maxRecDepth 20000 in
theorem uX4_asMaster_X4 : ∀ w ∈ wsX40, w ∈ wsX4_asMaster := by decide +kernel
set_option maxRecDepth 20000 in
theorem mX4_asMaster_0 : (Cond.fieldLink RX4 55 "TradeWheel" "trace" "J" : Cond) ∈ wsX4_asMaster := by decide +kernel
set_option maxRecDepth 20000 in
theorem mX4_asMaster_1 : (Cond.constantLong RX4 254 (100) : Cond) ∈ wsX4_asMaster := by decide +kernel
set_option maxRecDepth 20000 in
theorem mX4_asMaster_2 : (Cond.fieldLink RX4 48 "TradeWheel" "told" "LTradeWheel$Told;" : Cond) ∈ wsX4_asMaster := by decide +kernel
set_option maxRecDepth 20000 in
theorem mX4_asMaster_3 : (Cond.fieldLink RX4 144 "TradeWheel$Told" "trades" "I" : Cond) ∈ wsX4_asMaster := by decide +kernel
set_option maxRecDepth 20000 in
theorem mX4_asMaster_4 : (Cond.fieldLink RX4 26 "TradeWheel" "present" "LTradeWheel$World;" : Cond) ∈ wsX4_asMaster := by decide +kernel
set_option maxRecDepth 20000 in
theorem mX4_asMaster_5 : (Cond.fieldLink RX4 105 "TradeWheel$World" "skills" "[I" : Cond) ∈ wsX4_asMaster := by decide +kernel
set_option maxRecDepth 20000 in
theorem mX4_asMaster_6 : (Cond.methodLink RX4 256 Lib.Math.max.name : Cond) ∈ wsX4_asMaster := by decide +kernel
set_option maxRecDepth 20000 in
theorem mX4_asMaster_7 : (Cond.static Lib.Math.max.name : Cond) ∈ wsX4_asMaster := by decide +kernel
set_option maxRecDepth 20000 in
theorem mX4_asMaster_8 : (Cond.initialized "java/lang/Math" : Cond) ∈ wsX4_asMaster := by decide +kernel
set_option maxRecDepth 20000 in
theorem mX4_asMaster_9 : (Cond.code Lib.Math.max.name Lib.Math.max.code 2 (some .int) : Cond) ∈ wsX4_asMaster := by decide +kernel
set_option maxHeartbeats 4000000 in
set_option maxRecDepth 100000 in
theorem wX4_asMaster_16 {p : Program} {l : Launch} {e : Env} {s : State} {m : MethodId} {args : Array Value} {below : List Frame} {meth : Method} {c : Code} {Q : State → Prop} {A : Nat → Prop} {dC : Nat → ClassId} {dI : Nat → Nat → Nat} {Z : gZ} {cC cI cZ cW : ClassId} (hg0 : gX p s m args meth c cX4_asMaster 4 (some .int) wsX4_asMaster RX4 (dC, dI) Z [(cC, .char), (cI, .int), (cZ, .boolean), (cW, .object RX3)] A) (a_o a_o_text a_o_tunes a_o_present a_o_ahead a_o_images a_o_kept a_o_order a_o_told a_o_draft a_o_present_skills a_o_present_places a_o_present_stores a_o_present_lacked a_o_present_helpers a_o_present_favours a_o_present_wheel a_o_present_works a_o_told_needs a_o_told_yields a_o_told_skips a_o_told_skills a_o_told_places a_o_told_wheel : Nat) (o_trace : Int64) (o_present_round : Int32) (o_present_fell : Int32) (o_present_ills : Int32) (o_present_skills : Nat → Int32) (o_told_trades : Int32) (o_told_people : Int32) (o_told_tradesEnded : Int32) (l1 : Int32) (N : Nat) : ∀ (n : Nat) (l2 : Int32) (l3 : Int32) (l2' : Int32) (l3' : Int32), fX4_asMaster_16 N o_present_skills o_told_trades l1 n l2 l3 = some (l2', l3') → ∀ (H : Heap) (locs : List Loc) (ls : Array Slot), va_P (dC, dI) vwCl [(a_o, .inr (4, [.ref a_o_text, .ref a_o_tunes, .ref a_o_present, .ref a_o_ahead, .ref a_o_images, .ref a_o_kept, .ref a_o_order, .ref a_o_told, .ref a_o_draft, .long o_trace])), (a_o_present, .inr (3, [.int o_present_round, .int o_present_fell, .int o_present_ills, .ref a_o_present_skills, .ref a_o_present_places, .ref a_o_present_stores, .ref a_o_present_lacked, .ref a_o_present_helpers, .ref a_o_present_favours, .ref a_o_present_wheel, .ref a_o_present_works])), (a_o_present_skills, .inl (cI, 36, .inl o_present_skills)), (a_o_told, .inr (1, [.int o_told_trades, .int o_told_people, .ref a_o_told_needs, .ref a_o_told_yields, .ref a_o_told_skips, .ref a_o_told_skills, .ref a_o_told_places, .ref a_o_told_wheel, .int o_told_tradesEnded]))] H → va_D A [(a_o, .inr (4, [.ref a_o_text, .ref a_o_tunes, .ref a_o_present, .ref a_o_ahead, .ref a_o_images, .ref a_o_kept, .ref a_o_order, .ref a_o_told, .ref a_o_draft, .long o_trace])), (a_o_present, .inr (3, [.int o_present_round, .int o_present_fell, .int o_present_ills, .ref a_o_present_skills, .ref a_o_present_places, .ref a_o_present_stores, .ref a_o_present_lacked, .ref a_o_present_helpers, .ref a_o_present_favours, .ref a_o_present_wheel, .ref a_o_present_works])), (a_o_present_skills, .inl (cI, 36, .inl o_present_skills)), (a_o_told, .inr (1, [.int o_told_trades, .int o_told_people, .ref a_o_told_needs, .ref a_o_told_yields, .ref a_o_told_skips, .ref a_o_told_skills, .ref a_o_told_places, .ref a_o_told_wheel, .int o_told_tradesEnded]))] → va_S A s.heap H locs → lv_has ls 4 [(0, .ref a_o), (1, .int l1), (2, .int l2), (3, .int l3)] → (∀ (H : Heap) (locs : List Loc) (ls : Array Slot), va_P (dC, dI) vwCl [(a_o, .inr (4, [.ref a_o_text, .ref a_o_tunes, .ref a_o_present, .ref a_o_ahead, .ref a_o_images, .ref a_o_kept, .ref a_o_order, .ref a_o_told, .ref a_o_draft, .long o_trace])), (a_o_present, .inr (3, [.int o_present_round, .int o_present_fell, .int o_present_ills, .ref a_o_present_skills, .ref a_o_present_places, .ref a_o_present_stores, .ref a_o_present_lacked, .ref a_o_present_helpers, .ref a_o_present_favours, .ref a_o_present_wheel, .ref a_o_present_works])), (a_o_present_skills, .inl (cI, 36, .inl o_present_skills)), (a_o_told, .inr (1, [.int o_told_trades, .int o_told_people, .ref a_o_told_needs, .ref a_o_told_yields, .ref a_o_told_skips, .ref a_o_told_skills, .ref a_o_told_places, .ref a_o_told_wheel, .int o_told_tradesEnded]))] H → va_D A [(a_o, .inr (4, [.ref a_o_text, .ref a_o_tunes, .ref a_o_present, .ref a_o_ahead, .ref a_o_images, .ref a_o_kept, .ref a_o_order, .ref a_o_told, .ref a_o_draft, .long o_trace])), (a_o_present, .inr (3, [.int o_present_round, .int o_present_fell, .int o_present_ills, .ref a_o_present_skills, .ref a_o_present_places, .ref a_o_present_stores, .ref a_o_present_lacked, .ref a_o_present_helpers, .ref a_o_present_favours, .ref a_o_present_wheel, .ref a_o_present_works])), (a_o_present_skills, .inl (cI, 36, .inl o_present_skills)), (a_o_told, .inr (1, [.int o_told_trades, .int o_told_people, .ref a_o_told_needs, .ref a_o_told_yields, .ref a_o_told_skips, .ref a_o_told_skills, .ref a_o_told_places, .ref a_o_told_wheel, .int o_told_tradesEnded]))] → va_S A s.heap H locs → lv_has ls 4 [(0, .ref a_o), (1, .int l1), (2, .int l2')] → W p l e (headSpec wsX4_asMaster rmX4_asMaster).room s m args below meth c H locs 0 0 Q (F0 m 51 ls [])) → W p l e (headSpec wsX4_asMaster rmX4_asMaster).room s m args below meth c H locs 0 0 Q (F0 m 16 ls []) := by
  obtain ⟨hx, hb, hr, hml, hown, hts, hlocks, hA, hK, hN⟩ := id hg0
  have hF : CallFix p m c cX4_asMaster 4 s args wsX4_asMaster RX4 := ⟨hx, hb, hml, hown, hts⟩
  intro n
  induction n with
  | zero =>
    intro l2 l3 l2' l3' hf
    have hf := fX4_asMaster_16_0.symm.trans hf
    cases hf
  | succ n ih =>
    intro l2 l3 l2' l3' hf H locs ls hP hD hS hl kx
    have hf := fX4_asMaster_16_s.symm.trans hf
    refine lv_iload_n hx hb dX4_asMaster_16 rfl (lv_at hl 3 rfl) ?_
    refine lv_aload_n hx hb dX4_asMaster_17 rfl (lv_at hl 0 rfl) ?_
    refine va_get (D := (dC, dI)) (ci := 4) (v := .ref a_o_told) (C := RX4) (T := TX4) (N := 10) hx hb hts uX4_asMaster_X4 hown hK hP 0 rfl rfl 7 (by decide) (hts _ mX4_asMaster_2) (fun _ h9 => h9) rfl dX4_asMaster_18 ?_
    refine va_get (D := (dC, dI)) (ci := 1) (v := .int o_told_trades) (C := RX1) (T := TX1) (N := 9) hx hb hts uX4_asMaster_X1 hown hK hP 3 rfl rfl 0 (by decide) (hts _ mX4_asMaster_3) (fun _ h9 => h9) rfl dX4_asMaster_21 ?_
    refine lv_icmp_ge (tgt := 51) hx hb dX4_asMaster_24 (by decide) (fun c_1 => ?_) (fun c_1 => ?_)
    · have hf := pit hf c_1
      have q0 := Option.some.inj hf
      obtain ⟨e0, q1⟩ := Prod.mk.inj q0
      subst e0
      subst q1
      exact kx _ _ _ hP hD hS (lv_sub hl [0, 1, 2] rfl)
    · have hf := pif hf c_1
      refine lv_iload_n hx hb dX4_asMaster_27 rfl (lv_at hl 2 rfl) ?_
      refine lv_aload_n hx hb dX4_asMaster_28 rfl (lv_at hl 0 rfl) ?_
      refine va_get (D := (dC, dI)) (ci := 4) (v := .ref a_o_present) (C := RX4) (T := TX4) (N := 10) hx hb hts uX4_asMaster_X4 hown hK hP 0 rfl rfl 2 (by decide) (hts _ mX4_asMaster_4) (fun _ h9 => h9) rfl dX4_asMaster_29 ?_
      refine va_get (D := (dC, dI)) (ci := 3) (v := .ref a_o_present_skills) (C := RX3) (T := TX3) (N := 11) hx hb hts uX4_asMaster_X3 hown hK hP 1 rfl rfl 3 (by decide) (hts _ mX4_asMaster_5) (fun _ h9 => h9) rfl dX4_asMaster_32 ?_
      refine lv_iload_n hx hb dX4_asMaster_35 rfl (lv_at hl 1 rfl) ?_
      refine lv_iload_n hx hb dX4_asMaster_36 rfl (lv_at hl 3 rfl) ?_
      obtain ⟨r_2, hc, hf⟩ := pb1 hf
      refine gCi (va_runS (As := [.int l1, .int l3]) (rest := [.ref a_o_present_skills, .int l2]) hF (kX4_cell l dC dI Z cC cI cZ cW  _  l1 l3 N r_2 hc) (cwS 2 hts gX4_asMaster_X4_cell rfl rfl rfl (by decide +kernel) ⟨Nat.le_of_ble_eq_true rfl, Nat.le_of_ble_eq_true rfl⟩) (gPS (wc := []) hK hN hA hS hP hD [] rfl rfl) rfl rfl hl.1 rfl (lv_room (Nat.le_of_ble_eq_true rfl)) dX4_asMaster_37 ⟨Nat.zero_le _, Nat.zero_le _⟩) hP hD hS hA [] rfl rfl rfl (fun H locs hP hD hS => ?_)
      have hP : va_P (dC, dI) vwCl [(a_o, .inr (4, [.ref a_o_text, .ref a_o_tunes, .ref a_o_present, .ref a_o_ahead, .ref a_o_images, .ref a_o_kept, .ref a_o_order, .ref a_o_told, .ref a_o_draft, .long o_trace])), (a_o_present, .inr (3, [.int o_present_round, .int o_present_fell, .int o_present_ills, .ref a_o_present_skills, .ref a_o_present_places, .ref a_o_present_stores, .ref a_o_present_lacked, .ref a_o_present_helpers, .ref a_o_present_favours, .ref a_o_present_wheel, .ref a_o_present_works])), (a_o_present_skills, .inl (cI, 36, .inl o_present_skills)), (a_o_told, .inr (1, [.int o_told_trades, .int o_told_people, .ref a_o_told_needs, .ref a_o_told_yields, .ref a_o_told_skips, .ref a_o_told_skills, .ref a_o_told_places, .ref a_o_told_wheel, .int o_told_tradesEnded]))] H := hP
      have hD : va_D A [(a_o, .inr (4, [.ref a_o_text, .ref a_o_tunes, .ref a_o_present, .ref a_o_ahead, .ref a_o_images, .ref a_o_kept, .ref a_o_order, .ref a_o_told, .ref a_o_draft, .long o_trace])), (a_o_present, .inr (3, [.int o_present_round, .int o_present_fell, .int o_present_ills, .ref a_o_present_skills, .ref a_o_present_places, .ref a_o_present_stores, .ref a_o_present_lacked, .ref a_o_present_helpers, .ref a_o_present_favours, .ref a_o_present_wheel, .ref a_o_present_works])), (a_o_present_skills, .inl (cI, 36, .inl o_present_skills)), (a_o_told, .inr (1, [.int o_told_trades, .int o_told_people, .ref a_o_told_needs, .ref a_o_told_yields, .ref a_o_told_skips, .ref a_o_told_skills, .ref a_o_told_places, .ref a_o_told_wheel, .int o_told_tradesEnded]))] := hD
      obtain ⟨h_3, hf⟩ := pgd hf
      refine va_iald hx hb hK hP 2 1 rfl rfl h_3 dX4_asMaster_40 ?_
      refine va_mmax hx hb (hml.trans hl.1.symm) hown (hts _ mX4_asMaster_6) (hts _ mX4_asMaster_7) (hts _ mX4_asMaster_8) (hts _ mX4_asMaster_9) (Nat.le_of_ble_eq_true rfl) (Nat.le_of_ble_eq_true rfl) (Nat.zero_le _) (Nat.zero_le _) dX4_asMaster_41 ?_
      refine lv_istore_n (lv' := [(2, .int (if l2 < (o_present_skills r_2.toNatClampNeg) then (o_present_skills r_2.toNatClampNeg) else l2)), (0, .ref a_o), (1, .int l1), (3, .int l3)]) hx hb dX4_asMaster_44 rfl hl (by decide) rfl (fun ls hl => ?_)
      refine lv_iinc (v := (l3 + 1)) (lv' := [(3, .int (l3 + 1)), (2, .int (if l2 < (o_present_skills r_2.toNatClampNeg) then (o_present_skills r_2.toNatClampNeg) else l2)), (0, .ref a_o), (1, .int l1)]) hx hb dX4_asMaster_45 hl (k := 3) rfl rfl (by decide) rfl (fun ls hl => ?_)
      refine lv_goto (tgt := 16) hx hb dX4_asMaster_48 (by decide) ?_
      exact ih _ _ _ _ hf _ _ _ hP hD hS (lv_sub hl [2, 3, 1, 0] rfl) kx
set_option maxHeartbeats 4000000 in
set_option maxRecDepth 100000 in
theorem kX4_asMaster (l : Launch) (dC : Nat → ClassId) (dI : Nat → Nat → Nat) (Z : gZ) (cC cI cZ cW : ClassId) (a_o a_o_text a_o_tunes a_o_present a_o_ahead a_o_images a_o_kept a_o_order a_o_told a_o_draft a_o_present_skills a_o_present_places a_o_present_stores a_o_present_lacked a_o_present_helpers a_o_present_favours a_o_present_wheel a_o_present_works a_o_told_needs a_o_told_yields a_o_told_skips a_o_told_skills a_o_told_places a_o_told_wheel : Nat) (sz : Nat) (o_trace : Int64) (o_present_round : Int32) (o_present_fell : Int32) (o_present_ills : Int32) (o_present_skills : Nat → Int32) (o_told_trades : Int32) (o_told_people : Int32) (o_told_tradesEnded : Int32) (i1 : Int32) (N : Nat) (r' : Int32) (o_trace' : Int64) (hf : fX4_asMaster N o_trace o_present_skills o_told_trades  i1 = some (r', o_trace')) : Met l yX4_asMaster wsX4_asMaster rmX4_asMaster (va_Pc [.ref a_o, .int i1] (gB (dC, dI) Z [(cC, .char), (cI, .int), (cZ, .boolean), (cW, .object RX3)] [(a_o, .inr (4, [.ref a_o_text, .ref a_o_tunes, .ref a_o_present, .ref a_o_ahead, .ref a_o_images, .ref a_o_kept, .ref a_o_order, .ref a_o_told, .ref a_o_draft, .long o_trace])), (a_o_present, .inr (3, [.int o_present_round, .int o_present_fell, .int o_present_ills, .ref a_o_present_skills, .ref a_o_present_places, .ref a_o_present_stores, .ref a_o_present_lacked, .ref a_o_present_helpers, .ref a_o_present_favours, .ref a_o_present_wheel, .ref a_o_present_works])), (a_o_present_skills, .inl (cI, 36, .inl o_present_skills)), (a_o_told, .inr (1, [.int o_told_trades, .int o_told_people, .ref a_o_told_needs, .ref a_o_told_yields, .ref a_o_told_skips, .ref a_o_told_skills, .ref a_o_told_places, .ref a_o_told_wheel, .int o_told_tradesEnded]))] sz)) (va_Qi (fun (r : Int32) (_ : Unit) => r = r') (gE (dC, dI) [(a_o, .inr (4, [.ref a_o_text, .ref a_o_tunes, .ref a_o_present, .ref a_o_ahead, .ref a_o_images, .ref a_o_kept, .ref a_o_order, .ref a_o_told, .ref a_o_draft, .long o_trace'])), (a_o_present, .inr (3, [.int o_present_round, .int o_present_fell, .int o_present_ills, .ref a_o_present_skills, .ref a_o_present_places, .ref a_o_present_stores, .ref a_o_present_lacked, .ref a_o_present_helpers, .ref a_o_present_favours, .ref a_o_present_wheel, .ref a_o_present_works])), (a_o_present_skills, .inl (cI, 36, .inl o_present_skills)), (a_o_told, .inr (1, [.int o_told_trades, .int o_told_people, .ref a_o_told_needs, .ref a_o_told_yields, .ref a_o_told_skips, .ref a_o_told_skills, .ref a_o_told_places, .ref a_o_told_wheel, .int o_told_tradesEnded]))]) (va_A [(a_o, .inr (4, [.ref a_o_text, .ref a_o_tunes, .ref a_o_present, .ref a_o_ahead, .ref a_o_images, .ref a_o_kept, .ref a_o_order, .ref a_o_told, .ref a_o_draft, .long o_trace])), (a_o_present, .inr (3, [.int o_present_round, .int o_present_fell, .int o_present_ills, .ref a_o_present_skills, .ref a_o_present_places, .ref a_o_present_stores, .ref a_o_present_lacked, .ref a_o_present_helpers, .ref a_o_present_favours, .ref a_o_present_wheel, .ref a_o_present_works])), (a_o_present_skills, .inl (cI, 36, .inl o_present_skills)), (a_o_told, .inr (1, [.int o_told_trades, .int o_told_people, .ref a_o_told_needs, .ref a_o_told_yields, .ref a_o_told_skips, .ref a_o_told_skills, .ref a_o_told_places, .ref a_o_told_wheel, .int o_told_tradesEnded]))] sz)) 0 0 (va_A [(a_o, .inr (4, [.ref a_o_text, .ref a_o_tunes, .ref a_o_present, .ref a_o_ahead, .ref a_o_images, .ref a_o_kept, .ref a_o_order, .ref a_o_told, .ref a_o_draft, .long o_trace])), (a_o_present, .inr (3, [.int o_present_round, .int o_present_fell, .int o_present_ills, .ref a_o_present_skills, .ref a_o_present_places, .ref a_o_present_stores, .ref a_o_present_lacked, .ref a_o_present_helpers, .ref a_o_present_favours, .ref a_o_present_wheel, .ref a_o_present_works])), (a_o_present_skills, .inl (cI, 36, .inl o_present_skills)), (a_o_told, .inr (1, [.int o_told_trades, .int o_told_people, .ref a_o_told_needs, .ref a_o_told_yields, .ref a_o_told_skips, .ref a_o_told_skills, .ref a_o_told_places, .ref a_o_told_wheel, .int o_told_tradesEnded]))] sz) := by
  refine gMet (cc := cX4_asMaster) (maxL := 4) (ret := (some .int)) (Qc := fun A => va_Qi (fun (r : Int32) (_ : Unit) => r = r') (gE (dC, dI) [(a_o, .inr (4, [.ref a_o_text, .ref a_o_tunes, .ref a_o_present, .ref a_o_ahead, .ref a_o_images, .ref a_o_kept, .ref a_o_order, .ref a_o_told, .ref a_o_draft, .long o_trace'])), (a_o_present, .inr (3, [.int o_present_round, .int o_present_fell, .int o_present_ills, .ref a_o_present_skills, .ref a_o_present_places, .ref a_o_present_stores, .ref a_o_present_lacked, .ref a_o_present_helpers, .ref a_o_present_favours, .ref a_o_present_wheel, .ref a_o_present_works])), (a_o_present_skills, .inl (cI, 36, .inl o_present_skills)), (a_o_told, .inr (1, [.int o_told_trades, .int o_told_people, .ref a_o_told_needs, .ref a_o_told_yields, .ref a_o_told_skips, .ref a_o_told_skills, .ref a_o_told_places, .ref a_o_told_wheel, .int o_told_tradesEnded]))]) A) (by decide) rfl (Nat.le_of_ble_eq_true rfl) ?_
  intro p e s m below meth c A ls hg0 _ hsz hP hD hS hl
  have hg0 : gX p s m _ meth c cX4_asMaster 4 (some .int) wsX4_asMaster RX4 (dC, dI) Z [(cC, .char), (cI, .int), (cZ, .boolean), (cW, .object RX3)] A := hg0
  obtain ⟨hx, hb, hr, hml, hown, hts, hlocks, hA, hK, hN⟩ := id hg0
  subst hsz
  have hF : CallFix p m c cX4_asMaster 4 s _ wsX4_asMaster RX4 := ⟨hx, hb, hml, hown, hts⟩
  have hl : lv_has ls 4 [(0, .ref a_o), (1, .int i1)] := hl
  unfold fX4_asMaster at hf
  refine lv_aload_n hx hb dX4_asMaster_0 rfl (lv_at hl 0 rfl) ?_
  refine lv_dup hx hb dX4_asMaster_1 rfl ?_
  refine va_get (D := (dC, dI)) (ci := 4) (v := .long o_trace) (C := RX4) (T := TX4) (N := 10) hx hb hts uX4_asMaster_X4 hown hK hP 0 rfl rfl 9 (by decide) (hts _ mX4_asMaster_0) (fun _ h9 => h9) rfl dX4_asMaster_2 ?_
  refine lv_ldc2 (v := (100 : Int64)) hx hb hown (hts _ mX4_asMaster_1) dX4_asMaster_5 ?_
  refine lv_ladd hx hb dX4_asMaster_8 ?_
  refine va_put (D := (dC, dI)) (ci := 4) (v := .long (o_trace + (100 : Int64))) (ty := .long) (C := RX4) (T := TX4) (N := 10) hx hb hts uX4_asMaster_X4 tyX4 tyX4_ok nmX4 hown hK hP hD hS 0 rfl rfl 9 (by decide) (hts _ mX4_asMaster_0) (fun _ h9 => h9) rfl (by decide +kernel) rfl rfl (Nat.le_of_ble_eq_true rfl) dX4_asMaster_9 (fun H locs hP hD hS => ?_)
  have hP : va_P (dC, dI) vwCl [(a_o, .inr (4, [.ref a_o_text, .ref a_o_tunes, .ref a_o_present, .ref a_o_ahead, .ref a_o_images, .ref a_o_kept, .ref a_o_order, .ref a_o_told, .ref a_o_draft, .long (o_trace + (100 : Int64))])), (a_o_present, .inr (3, [.int o_present_round, .int o_present_fell, .int o_present_ills, .ref a_o_present_skills, .ref a_o_present_places, .ref a_o_present_stores, .ref a_o_present_lacked, .ref a_o_present_helpers, .ref a_o_present_favours, .ref a_o_present_wheel, .ref a_o_present_works])), (a_o_present_skills, .inl (cI, 36, .inl o_present_skills)), (a_o_told, .inr (1, [.int o_told_trades, .int o_told_people, .ref a_o_told_needs, .ref a_o_told_yields, .ref a_o_told_skips, .ref a_o_told_skills, .ref a_o_told_places, .ref a_o_told_wheel, .int o_told_tradesEnded]))] H := hP
  have hD : va_D A [(a_o, .inr (4, [.ref a_o_text, .ref a_o_tunes, .ref a_o_present, .ref a_o_ahead, .ref a_o_images, .ref a_o_kept, .ref a_o_order, .ref a_o_told, .ref a_o_draft, .long (o_trace + (100 : Int64))])), (a_o_present, .inr (3, [.int o_present_round, .int o_present_fell, .int o_present_ills, .ref a_o_present_skills, .ref a_o_present_places, .ref a_o_present_stores, .ref a_o_present_lacked, .ref a_o_present_helpers, .ref a_o_present_favours, .ref a_o_present_wheel, .ref a_o_present_works])), (a_o_present_skills, .inl (cI, 36, .inl o_present_skills)), (a_o_told, .inr (1, [.int o_told_trades, .int o_told_people, .ref a_o_told_needs, .ref a_o_told_yields, .ref a_o_told_skips, .ref a_o_told_skills, .ref a_o_told_places, .ref a_o_told_wheel, .int o_told_tradesEnded]))] := hD
  refine lv_iconst (v := (0 : Int32)) hx hb dX4_asMaster_12 (by decide) ?_
  refine lv_istore_n (lv' := [(2, .int (0 : Int32)), (0, .ref a_o), (1, .int i1)]) hx hb dX4_asMaster_13 rfl hl (by decide) rfl (fun ls hl => ?_)
  refine lv_iconst (v := (0 : Int32)) hx hb dX4_asMaster_14 (by decide) ?_
  refine lv_istore_n (lv' := [(3, .int (0 : Int32)), (2, .int (0 : Int32)), (0, .ref a_o), (1, .int i1)]) hx hb dX4_asMaster_15 rfl hl (by decide) rfl (fun ls hl => ?_)
  obtain ⟨l2_1, l3_2, hc, hf⟩ := pb2 hf
  refine wX4_asMaster_16 hg0 a_o a_o_text a_o_tunes a_o_present a_o_ahead a_o_images a_o_kept a_o_order a_o_told a_o_draft a_o_present_skills a_o_present_places a_o_present_stores a_o_present_lacked a_o_present_helpers a_o_present_favours a_o_present_wheel a_o_present_works a_o_told_needs a_o_told_yields a_o_told_skips a_o_told_skills a_o_told_places a_o_told_wheel (o_trace + (100 : Int64)) o_present_round o_present_fell o_present_ills o_present_skills o_told_trades o_told_people o_told_tradesEnded i1 N N (0 : Int32) (0 : Int32) l2_1 l3_2 hc _ _ _ hP hD hS (lv_sub hl [2, 3, 1, 0] rfl) (fun H locs ls hP hD hS hl => ?_)
  refine lv_aload_n hx hb dX4_asMaster_51 rfl (lv_at hl 0 rfl) ?_
  refine lv_iload_n hx hb dX4_asMaster_52 rfl (lv_at hl 1 rfl) ?_
  obtain ⟨r_3, o_trace_4, hc, hf⟩ := pb2 hf
  refine gCi (va_runV (As := [.int i1]) (rest := []) hF (kX4_asPerson l dC dI Z cC cI cZ cW a_o a_o_text a_o_tunes a_o_present a_o_ahead a_o_images a_o_kept a_o_order a_o_told a_o_draft a_o_present_skills a_o_present_places a_o_present_stores a_o_present_lacked a_o_present_helpers a_o_present_favours a_o_present_wheel a_o_present_works a_o_told_needs a_o_told_yields a_o_told_skips a_o_told_skills a_o_told_places a_o_told_wheel _ (o_trace + (100 : Int64)) o_present_round o_present_fell o_present_ills o_present_skills o_told_trades o_told_people o_told_tradesEnded i1 N r_3 o_trace_4 hc) (cwV 1 hts gX4_asMaster_X4_asPerson rfl rfl rfl (by decide +kernel) ⟨Nat.le_of_ble_eq_true rfl, Nat.le_of_ble_eq_true rfl⟩) (gPV (wc := [(a_o, .inr (4, [.ref a_o_text, .ref a_o_tunes, .ref a_o_present, .ref a_o_ahead, .ref a_o_images, .ref a_o_kept, .ref a_o_order, .ref a_o_told, .ref a_o_draft, .long (o_trace + (100 : Int64))])), (a_o_present, .inr (3, [.int o_present_round, .int o_present_fell, .int o_present_ills, .ref a_o_present_skills, .ref a_o_present_places, .ref a_o_present_stores, .ref a_o_present_lacked, .ref a_o_present_helpers, .ref a_o_present_favours, .ref a_o_present_wheel, .ref a_o_present_works])), (a_o_present_skills, .inl (cI, 36, .inl o_present_skills)), (a_o_told, .inr (1, [.int o_told_trades, .int o_told_people, .ref a_o_told_needs, .ref a_o_told_yields, .ref a_o_told_skips, .ref a_o_told_skills, .ref a_o_told_places, .ref a_o_told_wheel, .int o_told_tradesEnded]))]) hK hN hA hS hP hD [0, 1, 2, 3] rfl rfl (q0 := 0) (ci := 4) rfl rfl rfl) rfl rfl hl.1 rfl (lv_room (Nat.le_of_ble_eq_true rfl)) dX4_asMaster_53 ⟨Nat.zero_le _, Nat.zero_le _⟩) hP hD hS hA [0, 1, 2, 3] rfl rfl rfl (fun H locs hP hD hS => ?_)
  have hP : va_P (dC, dI) vwCl [(a_o, .inr (4, [.ref a_o_text, .ref a_o_tunes, .ref a_o_present, .ref a_o_ahead, .ref a_o_images, .ref a_o_kept, .ref a_o_order, .ref a_o_told, .ref a_o_draft, .long o_trace_4])), (a_o_present, .inr (3, [.int o_present_round, .int o_present_fell, .int o_present_ills, .ref a_o_present_skills, .ref a_o_present_places, .ref a_o_present_stores, .ref a_o_present_lacked, .ref a_o_present_helpers, .ref a_o_present_favours, .ref a_o_present_wheel, .ref a_o_present_works])), (a_o_present_skills, .inl (cI, 36, .inl o_present_skills)), (a_o_told, .inr (1, [.int o_told_trades, .int o_told_people, .ref a_o_told_needs, .ref a_o_told_yields, .ref a_o_told_skips, .ref a_o_told_skills, .ref a_o_told_places, .ref a_o_told_wheel, .int o_told_tradesEnded]))] H := hP
  have hD : va_D A [(a_o, .inr (4, [.ref a_o_text, .ref a_o_tunes, .ref a_o_present, .ref a_o_ahead, .ref a_o_images, .ref a_o_kept, .ref a_o_order, .ref a_o_told, .ref a_o_draft, .long o_trace_4])), (a_o_present, .inr (3, [.int o_present_round, .int o_present_fell, .int o_present_ills, .ref a_o_present_skills, .ref a_o_present_places, .ref a_o_present_stores, .ref a_o_present_lacked, .ref a_o_present_helpers, .ref a_o_present_favours, .ref a_o_present_wheel, .ref a_o_present_works])), (a_o_present_skills, .inl (cI, 36, .inl o_present_skills)), (a_o_told, .inr (1, [.int o_told_trades, .int o_told_people, .ref a_o_told_needs, .ref a_o_told_yields, .ref a_o_told_skips, .ref a_o_told_skills, .ref a_o_told_places, .ref a_o_told_wheel, .int o_told_tradesEnded]))] := hD
  refine lv_iload_n hx hb dX4_asMaster_56 rfl (lv_at hl 2 rfl) ?_
  refine lv_iadd hx hb dX4_asMaster_57 ?_
  have q0 := Option.some.inj hf
  obtain ⟨e0, q1⟩ := Prod.mk.inj q0
  subst e0
  subst q1
  exact gRi hx hb hr hlocks hP hS dX4_asMaster_58
abbrev rmX4_asLender : Room := { frames := 3, cells := 0, slots := 0, locals := 67 }
set_option maxRecDepth 20000 in
theorem uX4_asLender_X4 : ∀ w ∈ wsX40, w ∈ wsX4_asLender := by decide +kernel
set_option maxRecDepth 20000 in
theorem mX4_asLender_0 : (Cond.fieldLink RX4 55 "TradeWheel" "trace" "J" : Cond) ∈ wsX4_asLender := by decide +kernel
set_option maxRecDepth 20000 in
theorem mX4_asLender_1 : (Cond.constantLong RX4 261 (1000) : Cond) ∈ wsX4_asLender := by decide +kernel
set_option maxHeartbeats 4000000 in
set_option maxRecDepth 100000 in
theorem kX4_asLender (l : Launch) (dC : Nat → ClassId) (dI : Nat → Nat → Nat) (Z : gZ) (cC cI cZ cW : ClassId) (a_o a_o_text a_o_tunes a_o_present a_o_ahead a_o_images a_o_kept a_o_order a_o_told a_o_draft a_o_present_skills a_o_present_places a_o_present_stores a_o_present_lacked a_o_present_helpers a_o_present_favours a_o_present_wheel a_o_present_works a_o_told_needs a_o_told_yields a_o_told_skips a_o_told_skills a_o_told_places a_o_told_wheel : Nat) (sz : Nat) (o_trace : Int64) (o_present_round : Int32) (o_present_fell : Int32) (o_present_ills : Int32) (o_present_skills : Nat → Int32) (o_told_trades : Int32) (o_told_people : Int32) (o_told_tradesEnded : Int32) (i1 : Int32) (N : Nat) (r' : Int32) (o_trace' : Int64) (hf : fX4_asLender N o_trace o_present_skills o_told_trades  i1 = some (r', o_trace')) : Met l yX4_asLender wsX4_asLender rmX4_asLender (va_Pc [.ref a_o, .int i1] (gB (dC, dI) Z [(cC, .char), (cI, .int), (cZ, .boolean), (cW, .object RX3)] [(a_o, .inr (4, [.ref a_o_text, .ref a_o_tunes, .ref a_o_present, .ref a_o_ahead, .ref a_o_images, .ref a_o_kept, .ref a_o_order, .ref a_o_told, .ref a_o_draft, .long o_trace])), (a_o_present, .inr (3, [.int o_present_round, .int o_present_fell, .int o_present_ills, .ref a_o_present_skills, .ref a_o_present_places, .ref a_o_present_stores, .ref a_o_present_lacked, .ref a_o_present_helpers, .ref a_o_present_favours, .ref a_o_present_wheel, .ref a_o_present_works])), (a_o_present_skills, .inl (cI, 36, .inl o_present_skills)), (a_o_told, .inr (1, [.int o_told_trades, .int o_told_people, .ref a_o_told_needs, .ref a_o_told_yields, .ref a_o_told_skips, .ref a_o_told_skills, .ref a_o_told_places, .ref a_o_told_wheel, .int o_told_tradesEnded]))] sz)) (va_Qi (fun (r : Int32) (_ : Unit) => r = r') (gE (dC, dI) [(a_o, .inr (4, [.ref a_o_text, .ref a_o_tunes, .ref a_o_present, .ref a_o_ahead, .ref a_o_images, .ref a_o_kept, .ref a_o_order, .ref a_o_told, .ref a_o_draft, .long o_trace'])), (a_o_present, .inr (3, [.int o_present_round, .int o_present_fell, .int o_present_ills, .ref a_o_present_skills, .ref a_o_present_places, .ref a_o_present_stores, .ref a_o_present_lacked, .ref a_o_present_helpers, .ref a_o_present_favours, .ref a_o_present_wheel, .ref a_o_present_works])), (a_o_present_skills, .inl (cI, 36, .inl o_present_skills)), (a_o_told, .inr (1, [.int o_told_trades, .int o_told_people, .ref a_o_told_needs, .ref a_o_told_yields, .ref a_o_told_skips, .ref a_o_told_skills, .ref a_o_told_places, .ref a_o_told_wheel, .int o_told_tradesEnded]))]) (va_A [(a_o, .inr (4, [.ref a_o_text, .ref a_o_tunes, .ref a_o_present, .ref a_o_ahead, .ref a_o_images, .ref a_o_kept, .ref a_o_order, .ref a_o_told, .ref a_o_draft, .long o_trace])), (a_o_present, .inr (3, [.int o_present_round, .int o_present_fell, .int o_present_ills, .ref a_o_present_skills, .ref a_o_present_places, .ref a_o_present_stores, .ref a_o_present_lacked, .ref a_o_present_helpers, .ref a_o_present_favours, .ref a_o_present_wheel, .ref a_o_present_works])), (a_o_present_skills, .inl (cI, 36, .inl o_present_skills)), (a_o_told, .inr (1, [.int o_told_trades, .int o_told_people, .ref a_o_told_needs, .ref a_o_told_yields, .ref a_o_told_skips, .ref a_o_told_skills, .ref a_o_told_places, .ref a_o_told_wheel, .int o_told_tradesEnded]))] sz)) 0 0 (va_A [(a_o, .inr (4, [.ref a_o_text, .ref a_o_tunes, .ref a_o_present, .ref a_o_ahead, .ref a_o_images, .ref a_o_kept, .ref a_o_order, .ref a_o_told, .ref a_o_draft, .long o_trace])), (a_o_present, .inr (3, [.int o_present_round, .int o_present_fell, .int o_present_ills, .ref a_o_present_skills, .ref a_o_present_places, .ref a_o_present_stores, .ref a_o_present_lacked, .ref a_o_present_helpers, .ref a_o_present_favours, .ref a_o_present_wheel, .ref a_o_present_works])), (a_o_present_skills, .inl (cI, 36, .inl o_present_skills)), (a_o_told, .inr (1, [.int o_told_trades, .int o_told_people, .ref a_o_told_needs, .ref a_o_told_yields, .ref a_o_told_skips, .ref a_o_told_skills, .ref a_o_told_places, .ref a_o_told_wheel, .int o_told_tradesEnded]))] sz) := by
  refine gMet (cc := cX4_asLender) (maxL := 2) (ret := (some .int)) (Qc := fun A => va_Qi (fun (r : Int32) (_ : Unit) => r = r') (gE (dC, dI) [(a_o, .inr (4, [.ref a_o_text, .ref a_o_tunes, .ref a_o_present, .ref a_o_ahead, .ref a_o_images, .ref a_o_kept, .ref a_o_order, .ref a_o_told, .ref a_o_draft, .long o_trace'])), (a_o_present, .inr (3, [.int o_present_round, .int o_present_fell, .int o_present_ills, .ref a_o_present_skills, .ref a_o_present_places, .ref a_o_present_stores, .ref a_o_present_lacked, .ref a_o_present_helpers, .ref a_o_present_favours, .ref a_o_present_wheel, .ref a_o_present_works])), (a_o_present_skills, .inl (cI, 36, .inl o_present_skills)), (a_o_told, .inr (1, [.int o_told_trades, .int o_told_people, .ref a_o_told_needs, .ref a_o_told_yields, .ref a_o_told_skips, .ref a_o_told_skills, .ref a_o_told_places, .ref a_o_told_wheel, .int o_told_tradesEnded]))]) A) (by decide) rfl (Nat.le_of_ble_eq_true rfl) ?_
  intro p e s m below meth c A ls hg0 _ hsz hP hD hS hl
  have hg0 : gX p s m _ meth c cX4_asLender 2 (some .int) wsX4_asLender RX4 (dC, dI) Z [(cC, .char), (cI, .int), (cZ, .boolean), (cW, .object RX3)] A := hg0
  obtain ⟨hx, hb, hr, hml, hown, hts, hlocks, hA, hK, hN⟩ := id hg0
  subst hsz
  have hF : CallFix p m c cX4_asLender 2 s _ wsX4_asLender RX4 := ⟨hx, hb, hml, hown, hts⟩
  have hl : lv_has ls 2 [(0, .ref a_o), (1, .int i1)] := hl
  unfold fX4_asLender at hf
  refine lv_aload_n hx hb dX4_asLender_0 rfl (lv_at hl 0 rfl) ?_
  refine lv_dup hx hb dX4_asLender_1 rfl ?_
  refine va_get (D := (dC, dI)) (ci := 4) (v := .long o_trace) (C := RX4) (T := TX4) (N := 10) hx hb hts uX4_asLender_X4 hown hK hP 0 rfl rfl 9 (by decide) (hts _ mX4_asLender_0) (fun _ h9 => h9) rfl dX4_asLender_2 ?_
  refine lv_ldc2 (v := (1000 : Int64)) hx hb hown (hts _ mX4_asLender_1) dX4_asLender_5 ?_
  refine lv_ladd hx hb dX4_asLender_8 ?_
  refine va_put (D := (dC, dI)) (ci := 4) (v := .long (o_trace + (1000 : Int64))) (ty := .long) (C := RX4) (T := TX4) (N := 10) hx hb hts uX4_asLender_X4 tyX4 tyX4_ok nmX4 hown hK hP hD hS 0 rfl rfl 9 (by decide) (hts _ mX4_asLender_0) (fun _ h9 => h9) rfl (by decide +kernel) rfl rfl (Nat.le_of_ble_eq_true rfl) dX4_asLender_9 (fun H locs hP hD hS => ?_)
  have hP : va_P (dC, dI) vwCl [(a_o, .inr (4, [.ref a_o_text, .ref a_o_tunes, .ref a_o_present, .ref a_o_ahead, .ref a_o_images, .ref a_o_kept, .ref a_o_order, .ref a_o_told, .ref a_o_draft, .long (o_trace + (1000 : Int64))])), (a_o_present, .inr (3, [.int o_present_round, .int o_present_fell, .int o_present_ills, .ref a_o_present_skills, .ref a_o_present_places, .ref a_o_present_stores, .ref a_o_present_lacked, .ref a_o_present_helpers, .ref a_o_present_favours, .ref a_o_present_wheel, .ref a_o_present_works])), (a_o_present_skills, .inl (cI, 36, .inl o_present_skills)), (a_o_told, .inr (1, [.int o_told_trades, .int o_told_people, .ref a_o_told_needs, .ref a_o_told_yields, .ref a_o_told_skips, .ref a_o_told_skills, .ref a_o_told_places, .ref a_o_told_wheel, .int o_told_tradesEnded]))] H := hP
  have hD : va_D A [(a_o, .inr (4, [.ref a_o_text, .ref a_o_tunes, .ref a_o_present, .ref a_o_ahead, .ref a_o_images, .ref a_o_kept, .ref a_o_order, .ref a_o_told, .ref a_o_draft, .long (o_trace + (1000 : Int64))])), (a_o_present, .inr (3, [.int o_present_round, .int o_present_fell, .int o_present_ills, .ref a_o_present_skills, .ref a_o_present_places, .ref a_o_present_stores, .ref a_o_present_lacked, .ref a_o_present_helpers, .ref a_o_present_favours, .ref a_o_present_wheel, .ref a_o_present_works])), (a_o_present_skills, .inl (cI, 36, .inl o_present_skills)), (a_o_told, .inr (1, [.int o_told_trades, .int o_told_people, .ref a_o_told_needs, .ref a_o_told_yields, .ref a_o_told_skips, .ref a_o_told_skills, .ref a_o_told_places, .ref a_o_told_wheel, .int o_told_tradesEnded]))] := hD
  refine lv_iconst (v := (2 : Int32)) hx hb dX4_asLender_12 (by decide) ?_
  refine lv_aload_n hx hb dX4_asLender_13 rfl (lv_at hl 0 rfl) ?_
  refine lv_iload_n hx hb dX4_asLender_14 rfl (lv_at hl 1 rfl) ?_
  obtain ⟨r_1, o_trace_2, hc, hf⟩ := pb2 hf
  refine gCi (va_runV (As := [.int i1]) (rest := [.int (2 : Int32)]) hF (kX4_asMaster l dC dI Z cC cI cZ cW a_o a_o_text a_o_tunes a_o_present a_o_ahead a_o_images a_o_kept a_o_order a_o_told a_o_draft a_o_present_skills a_o_present_places a_o_present_stores a_o_present_lacked a_o_present_helpers a_o_present_favours a_o_present_wheel a_o_present_works a_o_told_needs a_o_told_yields a_o_told_skips a_o_told_skills a_o_told_places a_o_told_wheel _ (o_trace + (1000 : Int64)) o_present_round o_present_fell o_present_ills o_present_skills o_told_trades o_told_people o_told_tradesEnded i1 N r_1 o_trace_2 hc) (cwV 1 hts gX4_asLender_X4_asMaster rfl rfl rfl (by decide +kernel) ⟨Nat.le_of_ble_eq_true rfl, Nat.le_of_ble_eq_true rfl⟩) (gPV (wc := [(a_o, .inr (4, [.ref a_o_text, .ref a_o_tunes, .ref a_o_present, .ref a_o_ahead, .ref a_o_images, .ref a_o_kept, .ref a_o_order, .ref a_o_told, .ref a_o_draft, .long (o_trace + (1000 : Int64))])), (a_o_present, .inr (3, [.int o_present_round, .int o_present_fell, .int o_present_ills, .ref a_o_present_skills, .ref a_o_present_places, .ref a_o_present_stores, .ref a_o_present_lacked, .ref a_o_present_helpers, .ref a_o_present_favours, .ref a_o_present_wheel, .ref a_o_present_works])), (a_o_present_skills, .inl (cI, 36, .inl o_present_skills)), (a_o_told, .inr (1, [.int o_told_trades, .int o_told_people, .ref a_o_told_needs, .ref a_o_told_yields, .ref a_o_told_skips, .ref a_o_told_skills, .ref a_o_told_places, .ref a_o_told_wheel, .int o_told_tradesEnded]))]) hK hN hA hS hP hD [0, 1, 2, 3] rfl rfl (q0 := 0) (ci := 4) rfl rfl rfl) rfl rfl hl.1 rfl (lv_room (Nat.le_of_ble_eq_true rfl)) dX4_asLender_15 ⟨Nat.zero_le _, Nat.zero_le _⟩) hP hD hS hA [0, 1, 2, 3] rfl rfl rfl (fun H locs hP hD hS => ?_)
  have hP : va_P (dC, dI) vwCl [(a_o, .inr (4, [.ref a_o_text, .ref a_o_tunes, .ref a_o_present, .ref a_o_ahead, .ref a_o_images, .ref a_o_kept, .ref a_o_order, .ref a_o_told, .ref a_o_draft, .long o_trace_2])), (a_o_present, .inr (3, [.int o_present_round, .int o_present_fell, .int o_present_ills, .ref a_o_present_skills, .ref a_o_present_places, .ref a_o_present_stores, .ref a_o_present_lacked, .ref a_o_present_helpers, .ref a_o_present_favours, .ref a_o_present_wheel, .ref a_o_present_works])), (a_o_present_skills, .inl (cI, 36, .inl o_present_skills)), (a_o_told, .inr (1, [.int o_told_trades, .int o_told_people, .ref a_o_told_needs, .ref a_o_told_yields, .ref a_o_told_skips, .ref a_o_told_skills, .ref a_o_told_places, .ref a_o_told_wheel, .int o_told_tradesEnded]))] H := hP
  have hD : va_D A [(a_o, .inr (4, [.ref a_o_text, .ref a_o_tunes, .ref a_o_present, .ref a_o_ahead, .ref a_o_images, .ref a_o_kept, .ref a_o_order, .ref a_o_told, .ref a_o_draft, .long o_trace_2])), (a_o_present, .inr (3, [.int o_present_round, .int o_present_fell, .int o_present_ills, .ref a_o_present_skills, .ref a_o_present_places, .ref a_o_present_stores, .ref a_o_present_lacked, .ref a_o_present_helpers, .ref a_o_present_favours, .ref a_o_present_wheel, .ref a_o_present_works])), (a_o_present_skills, .inl (cI, 36, .inl o_present_skills)), (a_o_told, .inr (1, [.int o_told_trades, .int o_told_people, .ref a_o_told_needs, .ref a_o_told_yields, .ref a_o_told_skips, .ref a_o_told_skills, .ref a_o_told_places, .ref a_o_told_wheel, .int o_told_tradesEnded]))] := hD
  refine lv_imul hx hb dX4_asLender_18 ?_
  have q0 := Option.some.inj hf
  obtain ⟨e0, q1⟩ := Prod.mk.inj q0
  subst e0
  subst q1
  exact gRi hx hb hr hlocks hP hS dX4_asLender_19
abbrev rmX4_rate : Room := { frames := 4, cells := 0, slots := 0, locals := 88 }
set_option maxRecDepth 20000 in
theorem mX4_rate_0 : (Cond.constant RX4 216 (-1000000) : Cond) ∈ wsX4_rate := by decide +kernel
set_option maxHeartbeats 4000000 in
set_option maxRecDepth 100000 in
theorem kX4_rate (l : Launch) (dC : Nat → ClassId) (dI : Nat → Nat → Nat) (Z : gZ) (cC cI cZ cW : ClassId) (a_o a_o_text a_o_tunes a_o_present a_o_ahead a_o_images a_o_kept a_o_order a_o_told a_o_draft a_o_present_skills a_o_present_places a_o_present_stores a_o_present_lacked a_o_present_helpers a_o_present_favours a_o_present_wheel a_o_present_works a_o_told_needs a_o_told_yields a_o_told_skips a_o_told_skills a_o_told_places a_o_told_wheel : Nat) (sz : Nat) (o_trace : Int64) (o_present_round : Int32) (o_present_fell : Int32) (o_present_ills : Int32) (o_present_skills : Nat → Int32) (o_present_places : Nat → Int32) (o_told_trades : Int32) (o_told_people : Int32) (o_told_tradesEnded : Int32) (i1 : Int32) (i2 : Int32) (N : Nat) (r' : Int32) (o_trace' : Int64) (hf : fX4_rate N o_trace o_present_round o_present_skills o_present_places o_told_trades o_told_people  i1 i2 = some (r', o_trace')) : Met l yX4_rate wsX4_rate rmX4_rate (va_Pc [.ref a_o, .int i1, .int i2] (gB (dC, dI) Z [(cC, .char), (cI, .int), (cZ, .boolean), (cW, .object RX3)] [(a_o, .inr (4, [.ref a_o_text, .ref a_o_tunes, .ref a_o_present, .ref a_o_ahead, .ref a_o_images, .ref a_o_kept, .ref a_o_order, .ref a_o_told, .ref a_o_draft, .long o_trace])), (a_o_present, .inr (3, [.int o_present_round, .int o_present_fell, .int o_present_ills, .ref a_o_present_skills, .ref a_o_present_places, .ref a_o_present_stores, .ref a_o_present_lacked, .ref a_o_present_helpers, .ref a_o_present_favours, .ref a_o_present_wheel, .ref a_o_present_works])), (a_o_present_skills, .inl (cI, 36, .inl o_present_skills)), (a_o_present_places, .inl (cI, 6, .inl o_present_places)), (a_o_told, .inr (1, [.int o_told_trades, .int o_told_people, .ref a_o_told_needs, .ref a_o_told_yields, .ref a_o_told_skips, .ref a_o_told_skills, .ref a_o_told_places, .ref a_o_told_wheel, .int o_told_tradesEnded]))] sz)) (va_Qi (fun (r : Int32) (_ : Unit) => r = r') (gE (dC, dI) [(a_o, .inr (4, [.ref a_o_text, .ref a_o_tunes, .ref a_o_present, .ref a_o_ahead, .ref a_o_images, .ref a_o_kept, .ref a_o_order, .ref a_o_told, .ref a_o_draft, .long o_trace'])), (a_o_present, .inr (3, [.int o_present_round, .int o_present_fell, .int o_present_ills, .ref a_o_present_skills, .ref a_o_present_places, .ref a_o_present_stores, .ref a_o_present_lacked, .ref a_o_present_helpers, .ref a_o_present_favours, .ref a_o_present_wheel, .ref a_o_present_works])), (a_o_present_skills, .inl (cI, 36, .inl o_present_skills)), (a_o_present_places, .inl (cI, 6, .inl o_present_places)), (a_o_told, .inr (1, [.int o_told_trades, .int o_told_people, .ref a_o_told_needs, .ref a_o_told_yields, .ref a_o_told_skips, .ref a_o_told_skills, .ref a_o_told_places, .ref a_o_told_wheel, .int o_told_tradesEnded]))]) (va_A [(a_o, .inr (4, [.ref a_o_text, .ref a_o_tunes, .ref a_o_present, .ref a_o_ahead, .ref a_o_images, .ref a_o_kept, .ref a_o_order, .ref a_o_told, .ref a_o_draft, .long o_trace])), (a_o_present, .inr (3, [.int o_present_round, .int o_present_fell, .int o_present_ills, .ref a_o_present_skills, .ref a_o_present_places, .ref a_o_present_stores, .ref a_o_present_lacked, .ref a_o_present_helpers, .ref a_o_present_favours, .ref a_o_present_wheel, .ref a_o_present_works])), (a_o_present_skills, .inl (cI, 36, .inl o_present_skills)), (a_o_present_places, .inl (cI, 6, .inl o_present_places)), (a_o_told, .inr (1, [.int o_told_trades, .int o_told_people, .ref a_o_told_needs, .ref a_o_told_yields, .ref a_o_told_skips, .ref a_o_told_skills, .ref a_o_told_places, .ref a_o_told_wheel, .int o_told_tradesEnded]))] sz)) 0 0 (va_A [(a_o, .inr (4, [.ref a_o_text, .ref a_o_tunes, .ref a_o_present, .ref a_o_ahead, .ref a_o_images, .ref a_o_kept, .ref a_o_order, .ref a_o_told, .ref a_o_draft, .long o_trace])), (a_o_present, .inr (3, [.int o_present_round, .int o_present_fell, .int o_present_ills, .ref a_o_present_skills, .ref a_o_present_places, .ref a_o_present_stores, .ref a_o_present_lacked, .ref a_o_present_helpers, .ref a_o_present_favours, .ref a_o_present_wheel, .ref a_o_present_works])), (a_o_present_skills, .inl (cI, 36, .inl o_present_skills)), (a_o_present_places, .inl (cI, 6, .inl o_present_places)), (a_o_told, .inr (1, [.int o_told_trades, .int o_told_people, .ref a_o_told_needs, .ref a_o_told_yields, .ref a_o_told_skips, .ref a_o_told_skills, .ref a_o_told_places, .ref a_o_told_wheel, .int o_told_tradesEnded]))] sz) := by
  refine gMet (cc := cX4_rate) (maxL := 3) (ret := (some .int)) (Qc := fun A => va_Qi (fun (r : Int32) (_ : Unit) => r = r') (gE (dC, dI) [(a_o, .inr (4, [.ref a_o_text, .ref a_o_tunes, .ref a_o_present, .ref a_o_ahead, .ref a_o_images, .ref a_o_kept, .ref a_o_order, .ref a_o_told, .ref a_o_draft, .long o_trace'])), (a_o_present, .inr (3, [.int o_present_round, .int o_present_fell, .int o_present_ills, .ref a_o_present_skills, .ref a_o_present_places, .ref a_o_present_stores, .ref a_o_present_lacked, .ref a_o_present_helpers, .ref a_o_present_favours, .ref a_o_present_wheel, .ref a_o_present_works])), (a_o_present_skills, .inl (cI, 36, .inl o_present_skills)), (a_o_present_places, .inl (cI, 6, .inl o_present_places)), (a_o_told, .inr (1, [.int o_told_trades, .int o_told_people, .ref a_o_told_needs, .ref a_o_told_yields, .ref a_o_told_skips, .ref a_o_told_skills, .ref a_o_told_places, .ref a_o_told_wheel, .int o_told_tradesEnded]))]) A) (by decide) rfl (Nat.le_of_ble_eq_true rfl) ?_
  intro p e s m below meth c A ls hg0 _ hsz hP hD hS hl
  have hg0 : gX p s m _ meth c cX4_rate 3 (some .int) wsX4_rate RX4 (dC, dI) Z [(cC, .char), (cI, .int), (cZ, .boolean), (cW, .object RX3)] A := hg0
  obtain ⟨hx, hb, hr, hml, hown, hts, hlocks, hA, hK, hN⟩ := id hg0
  subst hsz
  have hF : CallFix p m c cX4_rate 3 s _ wsX4_rate RX4 := ⟨hx, hb, hml, hown, hts⟩
  have hl : lv_has ls 3 [(0, .ref a_o), (1, .int i1), (2, .int i2)] := hl
  unfold fX4_rate at hf
  refine lv_aload_n hx hb dX4_rate_0 rfl (lv_at hl 0 rfl) ?_
  refine lv_iload_n hx hb dX4_rate_1 rfl (lv_at hl 2 rfl) ?_
  obtain ⟨r_1, hc, hf⟩ := pb1 hf
  refine gCi (va_runV (As := [.int i2]) (rest := []) hF (kX4_isPerson l dC dI Z cC cI cZ cW a_o a_o_text a_o_tunes a_o_present a_o_ahead a_o_images a_o_kept a_o_order a_o_told a_o_draft a_o_told_needs a_o_told_yields a_o_told_skips a_o_told_skills a_o_told_places a_o_told_wheel _ o_trace o_told_trades o_told_people o_told_tradesEnded i2 N r_1 hc) (cwV 1 hts gX4_rate_X4_isPerson rfl rfl rfl (by decide +kernel) ⟨Nat.le_of_ble_eq_true rfl, Nat.le_of_ble_eq_true rfl⟩) (gPV (wc := [(a_o, .inr (4, [.ref a_o_text, .ref a_o_tunes, .ref a_o_present, .ref a_o_ahead, .ref a_o_images, .ref a_o_kept, .ref a_o_order, .ref a_o_told, .ref a_o_draft, .long o_trace])), (a_o_told, .inr (1, [.int o_told_trades, .int o_told_people, .ref a_o_told_needs, .ref a_o_told_yields, .ref a_o_told_skips, .ref a_o_told_skills, .ref a_o_told_places, .ref a_o_told_wheel, .int o_told_tradesEnded]))]) hK hN hA hS hP hD [0, 4] rfl rfl (q0 := 0) (ci := 4) rfl rfl rfl) rfl rfl hl.1 rfl (lv_room (Nat.le_of_ble_eq_true rfl)) dX4_rate_2 ⟨Nat.zero_le _, Nat.zero_le _⟩) hP hD hS hA [0, 4] rfl rfl rfl (fun H locs hP hD hS => ?_)
  have hP : va_P (dC, dI) vwCl [(a_o, .inr (4, [.ref a_o_text, .ref a_o_tunes, .ref a_o_present, .ref a_o_ahead, .ref a_o_images, .ref a_o_kept, .ref a_o_order, .ref a_o_told, .ref a_o_draft, .long o_trace])), (a_o_present, .inr (3, [.int o_present_round, .int o_present_fell, .int o_present_ills, .ref a_o_present_skills, .ref a_o_present_places, .ref a_o_present_stores, .ref a_o_present_lacked, .ref a_o_present_helpers, .ref a_o_present_favours, .ref a_o_present_wheel, .ref a_o_present_works])), (a_o_present_skills, .inl (cI, 36, .inl o_present_skills)), (a_o_present_places, .inl (cI, 6, .inl o_present_places)), (a_o_told, .inr (1, [.int o_told_trades, .int o_told_people, .ref a_o_told_needs, .ref a_o_told_yields, .ref a_o_told_skips, .ref a_o_told_skills, .ref a_o_told_places, .ref a_o_told_wheel, .int o_told_tradesEnded]))] H := hP
  have hD : va_D A [(a_o, .inr (4, [.ref a_o_text, .ref a_o_tunes, .ref a_o_present, .ref a_o_ahead, .ref a_o_images, .ref a_o_kept, .ref a_o_order, .ref a_o_told, .ref a_o_draft, .long o_trace])), (a_o_present, .inr (3, [.int o_present_round, .int o_present_fell, .int o_present_ills, .ref a_o_present_skills, .ref a_o_present_places, .ref a_o_present_stores, .ref a_o_present_lacked, .ref a_o_present_helpers, .ref a_o_present_favours, .ref a_o_present_wheel, .ref a_o_present_works])), (a_o_present_skills, .inl (cI, 36, .inl o_present_skills)), (a_o_present_places, .inl (cI, 6, .inl o_present_places)), (a_o_told, .inr (1, [.int o_told_trades, .int o_told_people, .ref a_o_told_needs, .ref a_o_told_yields, .ref a_o_told_skips, .ref a_o_told_skills, .ref a_o_told_places, .ref a_o_told_wheel, .int o_told_tradesEnded]))] := hD
  refine lv_if_ne (tgt := 11) hx hb dX4_rate_5 (by decide) (fun c_2 => ?_) (fun c_2 => ?_)
  · have hf := pif hf c_2
    refine lv_iload_n hx hb dX4_rate_11 rfl (lv_at hl 1 rfl) ?_
    by_cases c_15 : i1 = (0 : Int32)
    · have hf := pit hf c_15
      refine gTab (off := 40) (tgt := 52) hx hb c_15 dX4_rate_12 (by decide) (by decide) (by decide) (by decide) ?_
      refine lv_aload_n hx hb dX4_rate_52 rfl (lv_at hl 0 rfl) ?_
      refine lv_iload_n hx hb dX4_rate_53 rfl (lv_at hl 2 rfl) ?_
      obtain ⟨r_3, o_trace_4, hc, hf⟩ := pb2 hf
      refine gCi (va_runV (As := [.int i2]) (rest := []) hF (kX4_asPerson l dC dI Z cC cI cZ cW a_o a_o_text a_o_tunes a_o_present a_o_ahead a_o_images a_o_kept a_o_order a_o_told a_o_draft a_o_present_skills a_o_present_places a_o_present_stores a_o_present_lacked a_o_present_helpers a_o_present_favours a_o_present_wheel a_o_present_works a_o_told_needs a_o_told_yields a_o_told_skips a_o_told_skills a_o_told_places a_o_told_wheel _ o_trace o_present_round o_present_fell o_present_ills o_present_skills o_told_trades o_told_people o_told_tradesEnded i2 N r_3 o_trace_4 hc) (cwV 1 hts gX4_rate_X4_asPerson rfl rfl rfl (by decide +kernel) ⟨Nat.le_of_ble_eq_true rfl, Nat.le_of_ble_eq_true rfl⟩) (gPV (wc := [(a_o, .inr (4, [.ref a_o_text, .ref a_o_tunes, .ref a_o_present, .ref a_o_ahead, .ref a_o_images, .ref a_o_kept, .ref a_o_order, .ref a_o_told, .ref a_o_draft, .long o_trace])), (a_o_present, .inr (3, [.int o_present_round, .int o_present_fell, .int o_present_ills, .ref a_o_present_skills, .ref a_o_present_places, .ref a_o_present_stores, .ref a_o_present_lacked, .ref a_o_present_helpers, .ref a_o_present_favours, .ref a_o_present_wheel, .ref a_o_present_works])), (a_o_present_skills, .inl (cI, 36, .inl o_present_skills)), (a_o_told, .inr (1, [.int o_told_trades, .int o_told_people, .ref a_o_told_needs, .ref a_o_told_yields, .ref a_o_told_skips, .ref a_o_told_skills, .ref a_o_told_places, .ref a_o_told_wheel, .int o_told_tradesEnded]))]) hK hN hA hS hP hD [0, 1, 2, 4] rfl rfl (q0 := 0) (ci := 4) rfl rfl rfl) rfl rfl hl.1 rfl (lv_room (Nat.le_of_ble_eq_true rfl)) dX4_rate_54 ⟨Nat.zero_le _, Nat.zero_le _⟩) hP hD hS hA [0, 1, 2, 4] rfl rfl rfl (fun H locs hP hD hS => ?_)
      have hP : va_P (dC, dI) vwCl [(a_o, .inr (4, [.ref a_o_text, .ref a_o_tunes, .ref a_o_present, .ref a_o_ahead, .ref a_o_images, .ref a_o_kept, .ref a_o_order, .ref a_o_told, .ref a_o_draft, .long o_trace_4])), (a_o_present, .inr (3, [.int o_present_round, .int o_present_fell, .int o_present_ills, .ref a_o_present_skills, .ref a_o_present_places, .ref a_o_present_stores, .ref a_o_present_lacked, .ref a_o_present_helpers, .ref a_o_present_favours, .ref a_o_present_wheel, .ref a_o_present_works])), (a_o_present_skills, .inl (cI, 36, .inl o_present_skills)), (a_o_present_places, .inl (cI, 6, .inl o_present_places)), (a_o_told, .inr (1, [.int o_told_trades, .int o_told_people, .ref a_o_told_needs, .ref a_o_told_yields, .ref a_o_told_skips, .ref a_o_told_skills, .ref a_o_told_places, .ref a_o_told_wheel, .int o_told_tradesEnded]))] H := hP
      have hD : va_D A [(a_o, .inr (4, [.ref a_o_text, .ref a_o_tunes, .ref a_o_present, .ref a_o_ahead, .ref a_o_images, .ref a_o_kept, .ref a_o_order, .ref a_o_told, .ref a_o_draft, .long o_trace_4])), (a_o_present, .inr (3, [.int o_present_round, .int o_present_fell, .int o_present_ills, .ref a_o_present_skills, .ref a_o_present_places, .ref a_o_present_stores, .ref a_o_present_lacked, .ref a_o_present_helpers, .ref a_o_present_favours, .ref a_o_present_wheel, .ref a_o_present_works])), (a_o_present_skills, .inl (cI, 36, .inl o_present_skills)), (a_o_present_places, .inl (cI, 6, .inl o_present_places)), (a_o_told, .inr (1, [.int o_told_trades, .int o_told_people, .ref a_o_told_needs, .ref a_o_told_yields, .ref a_o_told_skips, .ref a_o_told_skills, .ref a_o_told_places, .ref a_o_told_wheel, .int o_told_tradesEnded]))] := hD
      have q0 := Option.some.inj hf
      obtain ⟨e0, q1⟩ := Prod.mk.inj q0
      subst e0
      subst q1
      exact gRi hx hb hr hlocks hP hS dX4_rate_57
    · have hf := pif hf c_15
      by_cases c_16 : i1 = (1 : Int32)
      · have hf := pit hf c_16
        refine gTab (off := 46) (tgt := 58) hx hb c_16 dX4_rate_12 (by decide) (by decide) (by decide) (by decide) ?_
        refine lv_aload_n hx hb dX4_rate_58 rfl (lv_at hl 0 rfl) ?_
        refine lv_iload_n hx hb dX4_rate_59 rfl (lv_at hl 2 rfl) ?_
        obtain ⟨r_5, o_trace_6, hc, hf⟩ := pb2 hf
        refine gCi (va_runV (As := [.int i2]) (rest := []) hF (kX4_asLearner l dC dI Z cC cI cZ cW a_o a_o_text a_o_tunes a_o_present a_o_ahead a_o_images a_o_kept a_o_order a_o_told a_o_draft a_o_present_skills a_o_present_places a_o_present_stores a_o_present_lacked a_o_present_helpers a_o_present_favours a_o_present_wheel a_o_present_works a_o_told_needs a_o_told_yields a_o_told_skips a_o_told_skills a_o_told_places a_o_told_wheel _ o_trace o_present_round o_present_fell o_present_ills o_present_skills o_present_places o_told_trades o_told_people o_told_tradesEnded i2 N r_5 o_trace_6 hc) (cwV 1 hts gX4_rate_X4_asLearner rfl rfl rfl (by decide +kernel) ⟨Nat.le_of_ble_eq_true rfl, Nat.le_of_ble_eq_true rfl⟩) (gPV (wc := [(a_o, .inr (4, [.ref a_o_text, .ref a_o_tunes, .ref a_o_present, .ref a_o_ahead, .ref a_o_images, .ref a_o_kept, .ref a_o_order, .ref a_o_told, .ref a_o_draft, .long o_trace])), (a_o_present, .inr (3, [.int o_present_round, .int o_present_fell, .int o_present_ills, .ref a_o_present_skills, .ref a_o_present_places, .ref a_o_present_stores, .ref a_o_present_lacked, .ref a_o_present_helpers, .ref a_o_present_favours, .ref a_o_present_wheel, .ref a_o_present_works])), (a_o_present_skills, .inl (cI, 36, .inl o_present_skills)), (a_o_present_places, .inl (cI, 6, .inl o_present_places)), (a_o_told, .inr (1, [.int o_told_trades, .int o_told_people, .ref a_o_told_needs, .ref a_o_told_yields, .ref a_o_told_skips, .ref a_o_told_skills, .ref a_o_told_places, .ref a_o_told_wheel, .int o_told_tradesEnded]))]) hK hN hA hS hP hD [0, 1, 2, 3, 4] rfl rfl (q0 := 0) (ci := 4) rfl rfl rfl) rfl rfl hl.1 rfl (lv_room (Nat.le_of_ble_eq_true rfl)) dX4_rate_60 ⟨Nat.zero_le _, Nat.zero_le _⟩) hP hD hS hA [0, 1, 2, 3, 4] rfl rfl rfl (fun H locs hP hD hS => ?_)
        have hP : va_P (dC, dI) vwCl [(a_o, .inr (4, [.ref a_o_text, .ref a_o_tunes, .ref a_o_present, .ref a_o_ahead, .ref a_o_images, .ref a_o_kept, .ref a_o_order, .ref a_o_told, .ref a_o_draft, .long o_trace_6])), (a_o_present, .inr (3, [.int o_present_round, .int o_present_fell, .int o_present_ills, .ref a_o_present_skills, .ref a_o_present_places, .ref a_o_present_stores, .ref a_o_present_lacked, .ref a_o_present_helpers, .ref a_o_present_favours, .ref a_o_present_wheel, .ref a_o_present_works])), (a_o_present_skills, .inl (cI, 36, .inl o_present_skills)), (a_o_present_places, .inl (cI, 6, .inl o_present_places)), (a_o_told, .inr (1, [.int o_told_trades, .int o_told_people, .ref a_o_told_needs, .ref a_o_told_yields, .ref a_o_told_skips, .ref a_o_told_skills, .ref a_o_told_places, .ref a_o_told_wheel, .int o_told_tradesEnded]))] H := hP
        have hD : va_D A [(a_o, .inr (4, [.ref a_o_text, .ref a_o_tunes, .ref a_o_present, .ref a_o_ahead, .ref a_o_images, .ref a_o_kept, .ref a_o_order, .ref a_o_told, .ref a_o_draft, .long o_trace_6])), (a_o_present, .inr (3, [.int o_present_round, .int o_present_fell, .int o_present_ills, .ref a_o_present_skills, .ref a_o_present_places, .ref a_o_present_stores, .ref a_o_present_lacked, .ref a_o_present_helpers, .ref a_o_present_favours, .ref a_o_present_wheel, .ref a_o_present_works])), (a_o_present_skills, .inl (cI, 36, .inl o_present_skills)), (a_o_present_places, .inl (cI, 6, .inl o_present_places)), (a_o_told, .inr (1, [.int o_told_trades, .int o_told_people, .ref a_o_told_needs, .ref a_o_told_yields, .ref a_o_told_skips, .ref a_o_told_skills, .ref a_o_told_places, .ref a_o_told_wheel, .int o_told_tradesEnded]))] := hD
        have q0 := Option.some.inj hf
        obtain ⟨e0, q1⟩ := Prod.mk.inj q0
        subst e0
        subst q1
        exact gRi hx hb hr hlocks hP hS dX4_rate_63
      · have hf := pif hf c_16
        by_cases c_17 : i1 = (2 : Int32)
        · have hf := pit hf c_17
          refine gTab (off := 52) (tgt := 64) hx hb c_17 dX4_rate_12 (by decide) (by decide) (by decide) (by decide) ?_
          refine lv_aload_n hx hb dX4_rate_64 rfl (lv_at hl 0 rfl) ?_
          refine lv_iload_n hx hb dX4_rate_65 rfl (lv_at hl 2 rfl) ?_
          obtain ⟨r_7, o_trace_8, hc, hf⟩ := pb2 hf
          refine gCi (va_runV (As := [.int i2]) (rest := []) hF (kX4_asMaster l dC dI Z cC cI cZ cW a_o a_o_text a_o_tunes a_o_present a_o_ahead a_o_images a_o_kept a_o_order a_o_told a_o_draft a_o_present_skills a_o_present_places a_o_present_stores a_o_present_lacked a_o_present_helpers a_o_present_favours a_o_present_wheel a_o_present_works a_o_told_needs a_o_told_yields a_o_told_skips a_o_told_skills a_o_told_places a_o_told_wheel _ o_trace o_present_round o_present_fell o_present_ills o_present_skills o_told_trades o_told_people o_told_tradesEnded i2 N r_7 o_trace_8 hc) (cwV 1 hts gX4_rate_X4_asMaster rfl rfl rfl (by decide +kernel) ⟨Nat.le_of_ble_eq_true rfl, Nat.le_of_ble_eq_true rfl⟩) (gPV (wc := [(a_o, .inr (4, [.ref a_o_text, .ref a_o_tunes, .ref a_o_present, .ref a_o_ahead, .ref a_o_images, .ref a_o_kept, .ref a_o_order, .ref a_o_told, .ref a_o_draft, .long o_trace])), (a_o_present, .inr (3, [.int o_present_round, .int o_present_fell, .int o_present_ills, .ref a_o_present_skills, .ref a_o_present_places, .ref a_o_present_stores, .ref a_o_present_lacked, .ref a_o_present_helpers, .ref a_o_present_favours, .ref a_o_present_wheel, .ref a_o_present_works])), (a_o_present_skills, .inl (cI, 36, .inl o_present_skills)), (a_o_told, .inr (1, [.int o_told_trades, .int o_told_people, .ref a_o_told_needs, .ref a_o_told_yields, .ref a_o_told_skips, .ref a_o_told_skills, .ref a_o_told_places, .ref a_o_told_wheel, .int o_told_tradesEnded]))]) hK hN hA hS hP hD [0, 1, 2, 4] rfl rfl (q0 := 0) (ci := 4) rfl rfl rfl) rfl rfl hl.1 rfl (lv_room (Nat.le_of_ble_eq_true rfl)) dX4_rate_66 ⟨Nat.zero_le _, Nat.zero_le _⟩) hP hD hS hA [0, 1, 2, 4] rfl rfl rfl (fun H locs hP hD hS => ?_)
          have hP : va_P (dC, dI) vwCl [(a_o, .inr (4, [.ref a_o_text, .ref a_o_tunes, .ref a_o_present, .ref a_o_ahead, .ref a_o_images, .ref a_o_kept, .ref a_o_order, .ref a_o_told, .ref a_o_draft, .long o_trace_8])), (a_o_present, .inr (3, [.int o_present_round, .int o_present_fell, .int o_present_ills, .ref a_o_present_skills, .ref a_o_present_places, .ref a_o_present_stores, .ref a_o_present_lacked, .ref a_o_present_helpers, .ref a_o_present_favours, .ref a_o_present_wheel, .ref a_o_present_works])), (a_o_present_skills, .inl (cI, 36, .inl o_present_skills)), (a_o_present_places, .inl (cI, 6, .inl o_present_places)), (a_o_told, .inr (1, [.int o_told_trades, .int o_told_people, .ref a_o_told_needs, .ref a_o_told_yields, .ref a_o_told_skips, .ref a_o_told_skills, .ref a_o_told_places, .ref a_o_told_wheel, .int o_told_tradesEnded]))] H := hP
          have hD : va_D A [(a_o, .inr (4, [.ref a_o_text, .ref a_o_tunes, .ref a_o_present, .ref a_o_ahead, .ref a_o_images, .ref a_o_kept, .ref a_o_order, .ref a_o_told, .ref a_o_draft, .long o_trace_8])), (a_o_present, .inr (3, [.int o_present_round, .int o_present_fell, .int o_present_ills, .ref a_o_present_skills, .ref a_o_present_places, .ref a_o_present_stores, .ref a_o_present_lacked, .ref a_o_present_helpers, .ref a_o_present_favours, .ref a_o_present_wheel, .ref a_o_present_works])), (a_o_present_skills, .inl (cI, 36, .inl o_present_skills)), (a_o_present_places, .inl (cI, 6, .inl o_present_places)), (a_o_told, .inr (1, [.int o_told_trades, .int o_told_people, .ref a_o_told_needs, .ref a_o_told_yields, .ref a_o_told_skips, .ref a_o_told_skills, .ref a_o_told_places, .ref a_o_told_wheel, .int o_told_tradesEnded]))] := hD
          have q0 := Option.some.inj hf
          obtain ⟨e0, q1⟩ := Prod.mk.inj q0
          subst e0
          subst q1
          exact gRi hx hb hr hlocks hP hS dX4_rate_69
        · have hf := pif hf c_17
          by_cases c_18 : i1 = (3 : Int32)
          · have hf := pit hf c_18
            refine gTab (off := 58) (tgt := 70) hx hb c_18 dX4_rate_12 (by decide) (by decide) (by decide) (by decide) ?_
            refine lv_aload_n hx hb dX4_rate_70 rfl (lv_at hl 0 rfl) ?_
            refine lv_iload_n hx hb dX4_rate_71 rfl (lv_at hl 2 rfl) ?_
            obtain ⟨r_9, o_trace_10, hc, hf⟩ := pb2 hf
            refine gCi (va_runV (As := [.int i2]) (rest := []) hF (kX4_asLender l dC dI Z cC cI cZ cW a_o a_o_text a_o_tunes a_o_present a_o_ahead a_o_images a_o_kept a_o_order a_o_told a_o_draft a_o_present_skills a_o_present_places a_o_present_stores a_o_present_lacked a_o_present_helpers a_o_present_favours a_o_present_wheel a_o_present_works a_o_told_needs a_o_told_yields a_o_told_skips a_o_told_skills a_o_told_places a_o_told_wheel _ o_trace o_present_round o_present_fell o_present_ills o_present_skills o_told_trades o_told_people o_told_tradesEnded i2 N r_9 o_trace_10 hc) (cwV 1 hts gX4_rate_X4_asLender rfl rfl rfl (by decide +kernel) ⟨Nat.le_of_ble_eq_true rfl, Nat.le_of_ble_eq_true rfl⟩) (gPV (wc := [(a_o, .inr (4, [.ref a_o_text, .ref a_o_tunes, .ref a_o_present, .ref a_o_ahead, .ref a_o_images, .ref a_o_kept, .ref a_o_order, .ref a_o_told, .ref a_o_draft, .long o_trace])), (a_o_present, .inr (3, [.int o_present_round, .int o_present_fell, .int o_present_ills, .ref a_o_present_skills, .ref a_o_present_places, .ref a_o_present_stores, .ref a_o_present_lacked, .ref a_o_present_helpers, .ref a_o_present_favours, .ref a_o_present_wheel, .ref a_o_present_works])), (a_o_present_skills, .inl (cI, 36, .inl o_present_skills)), (a_o_told, .inr (1, [.int o_told_trades, .int o_told_people, .ref a_o_told_needs, .ref a_o_told_yields, .ref a_o_told_skips, .ref a_o_told_skills, .ref a_o_told_places, .ref a_o_told_wheel, .int o_told_tradesEnded]))]) hK hN hA hS hP hD [0, 1, 2, 4] rfl rfl (q0 := 0) (ci := 4) rfl rfl rfl) rfl rfl hl.1 rfl (lv_room (Nat.le_of_ble_eq_true rfl)) dX4_rate_72 ⟨Nat.zero_le _, Nat.zero_le _⟩) hP hD hS hA [0, 1, 2, 4] rfl rfl rfl (fun H locs hP hD hS => ?_)
            have hP : va_P (dC, dI) vwCl [(a_o, .inr (4, [.ref a_o_text, .ref a_o_tunes, .ref a_o_present, .ref a_o_ahead, .ref a_o_images, .ref a_o_kept, .ref a_o_order, .ref a_o_told, .ref a_o_draft, .long o_trace_10])), (a_o_present, .inr (3, [.int o_present_round, .int o_present_fell, .int o_present_ills, .ref a_o_present_skills, .ref a_o_present_places, .ref a_o_present_stores, .ref a_o_present_lacked, .ref a_o_present_helpers, .ref a_o_present_favours, .ref a_o_present_wheel, .ref a_o_present_works])), (a_o_present_skills, .inl (cI, 36, .inl o_present_skills)), (a_o_present_places, .inl (cI, 6, .inl o_present_places)), (a_o_told, .inr (1, [.int o_told_trades, .int o_told_people, .ref a_o_told_needs, .ref a_o_told_yields, .ref a_o_told_skips, .ref a_o_told_skills, .ref a_o_told_places, .ref a_o_told_wheel, .int o_told_tradesEnded]))] H := hP
            have hD : va_D A [(a_o, .inr (4, [.ref a_o_text, .ref a_o_tunes, .ref a_o_present, .ref a_o_ahead, .ref a_o_images, .ref a_o_kept, .ref a_o_order, .ref a_o_told, .ref a_o_draft, .long o_trace_10])), (a_o_present, .inr (3, [.int o_present_round, .int o_present_fell, .int o_present_ills, .ref a_o_present_skills, .ref a_o_present_places, .ref a_o_present_stores, .ref a_o_present_lacked, .ref a_o_present_helpers, .ref a_o_present_favours, .ref a_o_present_wheel, .ref a_o_present_works])), (a_o_present_skills, .inl (cI, 36, .inl o_present_skills)), (a_o_present_places, .inl (cI, 6, .inl o_present_places)), (a_o_told, .inr (1, [.int o_told_trades, .int o_told_people, .ref a_o_told_needs, .ref a_o_told_yields, .ref a_o_told_skips, .ref a_o_told_skills, .ref a_o_told_places, .ref a_o_told_wheel, .int o_told_tradesEnded]))] := hD
            have q0 := Option.some.inj hf
            obtain ⟨e0, q1⟩ := Prod.mk.inj q0
            subst e0
            subst q1
            exact gRi hx hb hr hlocks hP hS dX4_rate_75
          · have hf := pif hf c_18
            by_cases c_19 : i1 = (4 : Int32)
            · have hf := pit hf c_19
              refine gTab (off := 64) (tgt := 76) hx hb c_19 dX4_rate_12 (by decide) (by decide) (by decide) (by decide) ?_
              refine lv_aload_n hx hb dX4_rate_76 rfl (lv_at hl 0 rfl) ?_
              refine lv_iload_n hx hb dX4_rate_77 rfl (lv_at hl 2 rfl) ?_
              obtain ⟨r_11, o_trace_12, hc, hf⟩ := pb2 hf
              refine gCi (va_runV (As := [.int i2]) (rest := []) hF (kX4_asChild l dC dI Z cC cI cZ cW a_o a_o_text a_o_tunes a_o_present a_o_ahead a_o_images a_o_kept a_o_order a_o_told a_o_draft a_o_present_skills a_o_present_places a_o_present_stores a_o_present_lacked a_o_present_helpers a_o_present_favours a_o_present_wheel a_o_present_works a_o_told_needs a_o_told_yields a_o_told_skips a_o_told_skills a_o_told_places a_o_told_wheel _ o_trace o_present_round o_present_fell o_present_ills o_present_skills o_present_places o_told_trades o_told_people o_told_tradesEnded i2 N r_11 o_trace_12 hc) (cwV 1 hts gX4_rate_X4_asChild rfl rfl rfl (by decide +kernel) ⟨Nat.le_of_ble_eq_true rfl, Nat.le_of_ble_eq_true rfl⟩) (gPV (wc := [(a_o, .inr (4, [.ref a_o_text, .ref a_o_tunes, .ref a_o_present, .ref a_o_ahead, .ref a_o_images, .ref a_o_kept, .ref a_o_order, .ref a_o_told, .ref a_o_draft, .long o_trace])), (a_o_present, .inr (3, [.int o_present_round, .int o_present_fell, .int o_present_ills, .ref a_o_present_skills, .ref a_o_present_places, .ref a_o_present_stores, .ref a_o_present_lacked, .ref a_o_present_helpers, .ref a_o_present_favours, .ref a_o_present_wheel, .ref a_o_present_works])), (a_o_present_skills, .inl (cI, 36, .inl o_present_skills)), (a_o_present_places, .inl (cI, 6, .inl o_present_places)), (a_o_told, .inr (1, [.int o_told_trades, .int o_told_people, .ref a_o_told_needs, .ref a_o_told_yields, .ref a_o_told_skips, .ref a_o_told_skills, .ref a_o_told_places, .ref a_o_told_wheel, .int o_told_tradesEnded]))]) hK hN hA hS hP hD [0, 1, 2, 3, 4] rfl rfl (q0 := 0) (ci := 4) rfl rfl rfl) rfl rfl hl.1 rfl (lv_room (Nat.le_of_ble_eq_true rfl)) dX4_rate_78 ⟨Nat.zero_le _, Nat.zero_le _⟩) hP hD hS hA [0, 1, 2, 3, 4] rfl rfl rfl (fun H locs hP hD hS => ?_)
              have hP : va_P (dC, dI) vwCl [(a_o, .inr (4, [.ref a_o_text, .ref a_o_tunes, .ref a_o_present, .ref a_o_ahead, .ref a_o_images, .ref a_o_kept, .ref a_o_order, .ref a_o_told, .ref a_o_draft, .long o_trace_12])), (a_o_present, .inr (3, [.int o_present_round, .int o_present_fell, .int o_present_ills, .ref a_o_present_skills, .ref a_o_present_places, .ref a_o_present_stores, .ref a_o_present_lacked, .ref a_o_present_helpers, .ref a_o_present_favours, .ref a_o_present_wheel, .ref a_o_present_works])), (a_o_present_skills, .inl (cI, 36, .inl o_present_skills)), (a_o_present_places, .inl (cI, 6, .inl o_present_places)), (a_o_told, .inr (1, [.int o_told_trades, .int o_told_people, .ref a_o_told_needs, .ref a_o_told_yields, .ref a_o_told_skips, .ref a_o_told_skills, .ref a_o_told_places, .ref a_o_told_wheel, .int o_told_tradesEnded]))] H := hP
              have hD : va_D A [(a_o, .inr (4, [.ref a_o_text, .ref a_o_tunes, .ref a_o_present, .ref a_o_ahead, .ref a_o_images, .ref a_o_kept, .ref a_o_order, .ref a_o_told, .ref a_o_draft, .long o_trace_12])), (a_o_present, .inr (3, [.int o_present_round, .int o_present_fell, .int o_present_ills, .ref a_o_present_skills, .ref a_o_present_places, .ref a_o_present_stores, .ref a_o_present_lacked, .ref a_o_present_helpers, .ref a_o_present_favours, .ref a_o_present_wheel, .ref a_o_present_works])), (a_o_present_skills, .inl (cI, 36, .inl o_present_skills)), (a_o_present_places, .inl (cI, 6, .inl o_present_places)), (a_o_told, .inr (1, [.int o_told_trades, .int o_told_people, .ref a_o_told_needs, .ref a_o_told_yields, .ref a_o_told_skips, .ref a_o_told_skills, .ref a_o_told_places, .ref a_o_told_wheel, .int o_told_tradesEnded]))] := hD
              have q0 := Option.some.inj hf
              obtain ⟨e0, q1⟩ := Prod.mk.inj q0
              subst e0
              subst q1
              exact gRi hx hb hr hlocks hP hS dX4_rate_81
            · have hf := pif hf c_19
              by_cases c_20 : i1 = (5 : Int32)
              · have hf := pit hf c_20
                refine gTab (off := 70) (tgt := 82) hx hb c_20 dX4_rate_12 (by decide) (by decide) (by decide) (by decide) ?_
                refine lv_aload_n hx hb dX4_rate_82 rfl (lv_at hl 0 rfl) ?_
                refine lv_iload_n hx hb dX4_rate_83 rfl (lv_at hl 2 rfl) ?_
                obtain ⟨r_13, o_trace_14, hc, hf⟩ := pb2 hf
                refine gCi (va_runV (As := [.int i2]) (rest := []) hF (kX4_asIdle l dC dI Z cC cI cZ cW a_o a_o_text a_o_tunes a_o_present a_o_ahead a_o_images a_o_kept a_o_order a_o_told a_o_draft a_o_present_skills a_o_present_places a_o_present_stores a_o_present_lacked a_o_present_helpers a_o_present_favours a_o_present_wheel a_o_present_works a_o_told_needs a_o_told_yields a_o_told_skips a_o_told_skills a_o_told_places a_o_told_wheel _ o_trace o_present_round o_present_fell o_present_ills o_present_skills o_told_trades o_told_people o_told_tradesEnded i2 N r_13 o_trace_14 hc) (cwV 1 hts gX4_rate_X4_asIdle rfl rfl rfl (by decide +kernel) ⟨Nat.le_of_ble_eq_true rfl, Nat.le_of_ble_eq_true rfl⟩) (gPV (wc := [(a_o, .inr (4, [.ref a_o_text, .ref a_o_tunes, .ref a_o_present, .ref a_o_ahead, .ref a_o_images, .ref a_o_kept, .ref a_o_order, .ref a_o_told, .ref a_o_draft, .long o_trace])), (a_o_present, .inr (3, [.int o_present_round, .int o_present_fell, .int o_present_ills, .ref a_o_present_skills, .ref a_o_present_places, .ref a_o_present_stores, .ref a_o_present_lacked, .ref a_o_present_helpers, .ref a_o_present_favours, .ref a_o_present_wheel, .ref a_o_present_works])), (a_o_present_skills, .inl (cI, 36, .inl o_present_skills)), (a_o_told, .inr (1, [.int o_told_trades, .int o_told_people, .ref a_o_told_needs, .ref a_o_told_yields, .ref a_o_told_skips, .ref a_o_told_skills, .ref a_o_told_places, .ref a_o_told_wheel, .int o_told_tradesEnded]))]) hK hN hA hS hP hD [0, 1, 2, 4] rfl rfl (q0 := 0) (ci := 4) rfl rfl rfl) rfl rfl hl.1 rfl (lv_room (Nat.le_of_ble_eq_true rfl)) dX4_rate_84 ⟨Nat.zero_le _, Nat.zero_le _⟩) hP hD hS hA [0, 1, 2, 4] rfl rfl rfl (fun H locs hP hD hS => ?_)
                have hP : va_P (dC, dI) vwCl [(a_o, .inr (4, [.ref a_o_text, .ref a_o_tunes, .ref a_o_present, .ref a_o_ahead, .ref a_o_images, .ref a_o_kept, .ref a_o_order, .ref a_o_told, .ref a_o_draft, .long o_trace_14])), (a_o_present, .inr (3, [.int o_present_round, .int o_present_fell, .int o_present_ills, .ref a_o_present_skills, .ref a_o_present_places, .ref a_o_present_stores, .ref a_o_present_lacked, .ref a_o_present_helpers, .ref a_o_present_favours, .ref a_o_present_wheel, .ref a_o_present_works])), (a_o_present_skills, .inl (cI, 36, .inl o_present_skills)), (a_o_present_places, .inl (cI, 6, .inl o_present_places)), (a_o_told, .inr (1, [.int o_told_trades, .int o_told_people, .ref a_o_told_needs, .ref a_o_told_yields, .ref a_o_told_skips, .ref a_o_told_skills, .ref a_o_told_places, .ref a_o_told_wheel, .int o_told_tradesEnded]))] H := hP
                have hD : va_D A [(a_o, .inr (4, [.ref a_o_text, .ref a_o_tunes, .ref a_o_present, .ref a_o_ahead, .ref a_o_images, .ref a_o_kept, .ref a_o_order, .ref a_o_told, .ref a_o_draft, .long o_trace_14])), (a_o_present, .inr (3, [.int o_present_round, .int o_present_fell, .int o_present_ills, .ref a_o_present_skills, .ref a_o_present_places, .ref a_o_present_stores, .ref a_o_present_lacked, .ref a_o_present_helpers, .ref a_o_present_favours, .ref a_o_present_wheel, .ref a_o_present_works])), (a_o_present_skills, .inl (cI, 36, .inl o_present_skills)), (a_o_present_places, .inl (cI, 6, .inl o_present_places)), (a_o_told, .inr (1, [.int o_told_trades, .int o_told_people, .ref a_o_told_needs, .ref a_o_told_yields, .ref a_o_told_skips, .ref a_o_told_skills, .ref a_o_told_places, .ref a_o_told_wheel, .int o_told_tradesEnded]))] := hD
                have q0 := Option.some.inj hf
                obtain ⟨e0, q1⟩ := Prod.mk.inj q0
                subst e0
                subst q1
                exact gRi hx hb hr hlocks hP hS dX4_rate_87
              · have hf := pif hf c_20
                have c_15 := ti_ne (k := 0) c_15 (by decide)
                have c_16 := ti_ne (k := 1) c_16 (by decide)
                have c_17 := ti_ne (k := 2) c_17 (by decide)
                have c_18 := ti_ne (k := 3) c_18 (by decide)
                have c_19 := ti_ne (k := 4) c_19 (by decide)
                have c_20 := ti_ne (k := 5) c_20 (by decide)
                refine lv_tableOut (tgt := 88) hx hb dX4_rate_12 (by omega) (by decide) ?_
                refine lv_ldc (v := (-1000000 : Int32)) hx hb hown (hts _ mX4_rate_0) dX4_rate_88 ?_
                have q0 := Option.some.inj hf
                obtain ⟨e0, q1⟩ := Prod.mk.inj q0
                subst e0
                subst q1
                exact gRi hx hb hr hlocks hP hS dX4_rate_90
  · have hf := pit hf c_2
    refine lv_ldc (v := (-1000000 : Int32)) hx hb hown (hts _ mX4_rate_0) dX4_rate_8 ?_
    have q0 := Option.some.inj hf
    obtain ⟨e0, q1⟩ := Prod.mk.inj q0
    subst e0
    subst q1
    exact gRi hx hb hr hlocks hP hS dX4_rate_10
abbrev rmX4_count : Room := { frames := 1, cells := 0, slots := 0, locals := 22 }
set_option maxRecDepth 20000 in
theorem uX4_count_X0 : ∀ w ∈ wsX00, w ∈ wsX4_count := by decide +kernel
set_option maxRecDepth 20000 in
theorem uX4_count_X1 : ∀ w ∈ wsX10, w ∈ wsX4_count := by decide +kernel
set_option maxRecDepth 20000 in
theorem uX4_count_X3 : ∀ w ∈ wsX30, w ∈ wsX4_count := by decide +kernel
set_option maxRecDepth 20000 in
theorem uX4_count_X4 : ∀ w ∈ wsX40, w ∈ wsX4_count := by decide +kernel
set_option maxRecDepth 20000 in
theorem mX4_count_0 : (Cond.fieldLink RX4 48 "TradeWheel" "told" "LTradeWheel$Told;" : Cond) ∈ wsX4_count := by decide +kernel
set_option maxRecDepth 20000 in
theorem mX4_count_1 : (Cond.fieldLink RX4 144 "TradeWheel$Told" "trades" "I" : Cond) ∈ wsX4_count := by decide +kernel
set_option maxRecDepth 20000 in
theorem mX4_count_2 : (Cond.fieldLink RX4 197 "TradeWheel$Told" "people" "I" : Cond) ∈ wsX4_count := by decide +kernel
set_option maxRecDepth 20000 in
theorem mX4_count_3 : (Cond.fieldLink RX4 26 "TradeWheel" "present" "LTradeWheel$World;" : Cond) ∈ wsX4_count := by decide +kernel
set_option maxRecDepth 20000 in
theorem mX4_count_4 : (Cond.fieldLink RX4 238 "TradeWheel$World" "ills" "I" : Cond) ∈ wsX4_count := by decide +kernel
set_option maxRecDepth 20000 in
theorem mX4_count_5 : (Cond.fieldLink RX4 10 "TradeWheel" "text" "LTradeWheel$Text;" : Cond) ∈ wsX4_count := by decide +kernel
set_option maxRecDepth 20000 in
theorem mX4_count_6 : (Cond.fieldLink RX4 67 "TradeWheel$Text" "length" "I" : Cond) ∈ wsX4_count := by decide +kernel
set_option maxHeartbeats 4000000 in
set_option maxRecDepth 100000 in
theorem kX4_count (l : Launch) (dC : Nat → ClassId) (dI : Nat → Nat → Nat) (Z : gZ) (cC cI cZ cW : ClassId) (a_o a_o_text a_o_tunes a_o_present a_o_ahead a_o_images a_o_kept a_o_order a_o_told a_o_draft a_o_text_signs a_o_text_tokens a_o_text_starts a_o_present_skills a_o_present_places a_o_present_stores a_o_present_lacked a_o_present_helpers a_o_present_favours a_o_present_wheel a_o_present_works a_o_told_needs a_o_told_yields a_o_told_skips a_o_told_skills a_o_told_places a_o_told_wheel : Nat) (sz : Nat) (o_trace : Int64) (o_text_length : Int32) (o_text_cuts : Int32) (o_text_current : Int32) (o_present_round : Int32) (o_present_fell : Int32) (o_present_ills : Int32) (o_present_helpers : Nat → Int32) (o_told_trades : Int32) (o_told_people : Int32) (o_told_tradesEnded : Int32) (i1 : Int32) (N : Nat) (r' : Int32) (hf : fX4_count N o_text_length o_present_ills o_present_helpers o_told_trades o_told_people  i1 = some r') : Met l yX4_count wsX4_count rmX4_count (va_Pc [.ref a_o, .int i1] (gB (dC, dI) Z [(cC, .char), (cI, .int), (cZ, .boolean), (cW, .object RX3)] [(a_o, .inr (4, [.ref a_o_text, .ref a_o_tunes, .ref a_o_present, .ref a_o_ahead, .ref a_o_images, .ref a_o_kept, .ref a_o_order, .ref a_o_told, .ref a_o_draft, .long o_trace])), (a_o_text, .inr (0, [.int o_text_length, .ref a_o_text_signs, .ref a_o_text_tokens, .ref a_o_text_starts, .int o_text_cuts, .int o_text_current])), (a_o_present, .inr (3, [.int o_present_round, .int o_present_fell, .int o_present_ills, .ref a_o_present_skills, .ref a_o_present_places, .ref a_o_present_stores, .ref a_o_present_lacked, .ref a_o_present_helpers, .ref a_o_present_favours, .ref a_o_present_wheel, .ref a_o_present_works])), (a_o_present_helpers, .inl (cI, 6, .inl o_present_helpers)), (a_o_told, .inr (1, [.int o_told_trades, .int o_told_people, .ref a_o_told_needs, .ref a_o_told_yields, .ref a_o_told_skips, .ref a_o_told_skills, .ref a_o_told_places, .ref a_o_told_wheel, .int o_told_tradesEnded]))] sz)) (va_Qi (fun (r : Int32) (_ : Unit) => r = r') (gE (dC, dI) [(a_o, .inr (4, [.ref a_o_text, .ref a_o_tunes, .ref a_o_present, .ref a_o_ahead, .ref a_o_images, .ref a_o_kept, .ref a_o_order, .ref a_o_told, .ref a_o_draft, .long o_trace])), (a_o_text, .inr (0, [.int o_text_length, .ref a_o_text_signs, .ref a_o_text_tokens, .ref a_o_text_starts, .int o_text_cuts, .int o_text_current])), (a_o_present, .inr (3, [.int o_present_round, .int o_present_fell, .int o_present_ills, .ref a_o_present_skills, .ref a_o_present_places, .ref a_o_present_stores, .ref a_o_present_lacked, .ref a_o_present_helpers, .ref a_o_present_favours, .ref a_o_present_wheel, .ref a_o_present_works])), (a_o_present_helpers, .inl (cI, 6, .inl o_present_helpers)), (a_o_told, .inr (1, [.int o_told_trades, .int o_told_people, .ref a_o_told_needs, .ref a_o_told_yields, .ref a_o_told_skips, .ref a_o_told_skills, .ref a_o_told_places, .ref a_o_told_wheel, .int o_told_tradesEnded]))]) (va_A [(a_o, .inr (4, [.ref a_o_text, .ref a_o_tunes, .ref a_o_present, .ref a_o_ahead, .ref a_o_images, .ref a_o_kept, .ref a_o_order, .ref a_o_told, .ref a_o_draft, .long o_trace])), (a_o_text, .inr (0, [.int o_text_length, .ref a_o_text_signs, .ref a_o_text_tokens, .ref a_o_text_starts, .int o_text_cuts, .int o_text_current])), (a_o_present, .inr (3, [.int o_present_round, .int o_present_fell, .int o_present_ills, .ref a_o_present_skills, .ref a_o_present_places, .ref a_o_present_stores, .ref a_o_present_lacked, .ref a_o_present_helpers, .ref a_o_present_favours, .ref a_o_present_wheel, .ref a_o_present_works])), (a_o_present_helpers, .inl (cI, 6, .inl o_present_helpers)), (a_o_told, .inr (1, [.int o_told_trades, .int o_told_people, .ref a_o_told_needs, .ref a_o_told_yields, .ref a_o_told_skips, .ref a_o_told_skills, .ref a_o_told_places, .ref a_o_told_wheel, .int o_told_tradesEnded]))] sz)) 0 0 (va_A [(a_o, .inr (4, [.ref a_o_text, .ref a_o_tunes, .ref a_o_present, .ref a_o_ahead, .ref a_o_images, .ref a_o_kept, .ref a_o_order, .ref a_o_told, .ref a_o_draft, .long o_trace])), (a_o_text, .inr (0, [.int o_text_length, .ref a_o_text_signs, .ref a_o_text_tokens, .ref a_o_text_starts, .int o_text_cuts, .int o_text_current])), (a_o_present, .inr (3, [.int o_present_round, .int o_present_fell, .int o_present_ills, .ref a_o_present_skills, .ref a_o_present_places, .ref a_o_present_stores, .ref a_o_present_lacked, .ref a_o_present_helpers, .ref a_o_present_favours, .ref a_o_present_wheel, .ref a_o_present_works])), (a_o_present_helpers, .inl (cI, 6, .inl o_present_helpers)), (a_o_told, .inr (1, [.int o_told_trades, .int o_told_people, .ref a_o_told_needs, .ref a_o_told_yields, .ref a_o_told_skips, .ref a_o_told_skills, .ref a_o_told_places, .ref a_o_told_wheel, .int o_told_tradesEnded]))] sz) := by
  refine gMet (cc := cX4_count) (maxL := 2) (ret := (some .int)) (Qc := fun A => va_Qi (fun (r : Int32) (_ : Unit) => r = r') (gE (dC, dI) [(a_o, .inr (4, [.ref a_o_text, .ref a_o_tunes, .ref a_o_present, .ref a_o_ahead, .ref a_o_images, .ref a_o_kept, .ref a_o_order, .ref a_o_told, .ref a_o_draft, .long o_trace])), (a_o_text, .inr (0, [.int o_text_length, .ref a_o_text_signs, .ref a_o_text_tokens, .ref a_o_text_starts, .int o_text_cuts, .int o_text_current])), (a_o_present, .inr (3, [.int o_present_round, .int o_present_fell, .int o_present_ills, .ref a_o_present_skills, .ref a_o_present_places, .ref a_o_present_stores, .ref a_o_present_lacked, .ref a_o_present_helpers, .ref a_o_present_favours, .ref a_o_present_wheel, .ref a_o_present_works])), (a_o_present_helpers, .inl (cI, 6, .inl o_present_helpers)), (a_o_told, .inr (1, [.int o_told_trades, .int o_told_people, .ref a_o_told_needs, .ref a_o_told_yields, .ref a_o_told_skips, .ref a_o_told_skills, .ref a_o_told_places, .ref a_o_told_wheel, .int o_told_tradesEnded]))]) A) (by decide) rfl (Nat.le_of_ble_eq_true rfl) ?_
  intro p e s m below meth c A ls hg0 _ hsz hP hD hS hl
  have hg0 : gX p s m _ meth c cX4_count 2 (some .int) wsX4_count RX4 (dC, dI) Z [(cC, .char), (cI, .int), (cZ, .boolean), (cW, .object RX3)] A := hg0
  obtain ⟨hx, hb, hr, hml, hown, hts, hlocks, hA, hK, hN⟩ := id hg0
  subst hsz
  have hF : CallFix p m c cX4_count 2 s _ wsX4_count RX4 := ⟨hx, hb, hml, hown, hts⟩
  have hl : lv_has ls 2 [(0, .ref a_o), (1, .int i1)] := hl
  unfold fX4_count at hf
  refine lv_iload_n hx hb dX4_count_0 rfl (lv_at hl 1 rfl) ?_
  by_cases c_3 : i1 = (0 : Int32)
  · have hf := pit hf c_3
    refine gTab (off := 35) (tgt := 36) hx hb c_3 dX4_count_1 (by decide) (by decide) (by decide) (by decide) ?_
    refine lv_aload_n hx hb dX4_count_36 rfl (lv_at hl 0 rfl) ?_
    refine va_get (D := (dC, dI)) (ci := 4) (v := .ref a_o_told) (C := RX4) (T := TX4) (N := 10) hx hb hts uX4_count_X4 hown hK hP 0 rfl rfl 7 (by decide) (hts _ mX4_count_0) (fun _ h9 => h9) rfl dX4_count_37 ?_
    refine va_get (D := (dC, dI)) (ci := 1) (v := .int o_told_trades) (C := RX1) (T := TX1) (N := 9) hx hb hts uX4_count_X1 hown hK hP 4 rfl rfl 0 (by decide) (hts _ mX4_count_1) (fun _ h9 => h9) rfl dX4_count_40 ?_
    have q0 := Option.some.inj hf
    subst q0
    exact gRi hx hb hr hlocks hP hS dX4_count_43
  · have hf := pif hf c_3
    by_cases c_4 : i1 = (1 : Int32)
    · have hf := pit hf c_4
      refine gTab (off := 43) (tgt := 44) hx hb c_4 dX4_count_1 (by decide) (by decide) (by decide) (by decide) ?_
      refine lv_aload_n hx hb dX4_count_44 rfl (lv_at hl 0 rfl) ?_
      refine va_get (D := (dC, dI)) (ci := 4) (v := .ref a_o_told) (C := RX4) (T := TX4) (N := 10) hx hb hts uX4_count_X4 hown hK hP 0 rfl rfl 7 (by decide) (hts _ mX4_count_0) (fun _ h9 => h9) rfl dX4_count_45 ?_
      refine va_get (D := (dC, dI)) (ci := 1) (v := .int o_told_people) (C := RX1) (T := TX1) (N := 9) hx hb hts uX4_count_X1 hown hK hP 4 rfl rfl 1 (by decide) (hts _ mX4_count_2) (fun _ h9 => h9) rfl dX4_count_48 ?_
      have q0 := Option.some.inj hf
      subst q0
      exact gRi hx hb hr hlocks hP hS dX4_count_51
    · have hf := pif hf c_4
      by_cases c_5 : i1 = (2 : Int32)
      · have hf := pit hf c_5
        refine gTab (off := 51) (tgt := 52) hx hb c_5 dX4_count_1 (by decide) (by decide) (by decide) (by decide) ?_
        refine lv_aload_n hx hb dX4_count_52 rfl (lv_at hl 0 rfl) ?_
        refine va_get (D := (dC, dI)) (ci := 4) (v := .ref a_o_present) (C := RX4) (T := TX4) (N := 10) hx hb hts uX4_count_X4 hown hK hP 0 rfl rfl 2 (by decide) (hts _ mX4_count_3) (fun _ h9 => h9) rfl dX4_count_53 ?_
        obtain ⟨r_1, hc, hf⟩ := pb1 hf
        refine gCi (va_runV (As := []) (rest := []) hF (kX3_helpsTold l dC dI Z cC cI cZ cW a_o_present a_o_present_skills a_o_present_places a_o_present_stores a_o_present_lacked a_o_present_helpers a_o_present_favours a_o_present_wheel a_o_present_works _ o_present_round o_present_fell o_present_ills o_present_helpers  N r_1 hc) (cwV 0 hts gX4_count_X3_helpsTold rfl rfl rfl (by decide +kernel) ⟨Nat.le_of_ble_eq_true rfl, Nat.le_of_ble_eq_true rfl⟩) (gPV (wc := [(a_o_present, .inr (3, [.int o_present_round, .int o_present_fell, .int o_present_ills, .ref a_o_present_skills, .ref a_o_present_places, .ref a_o_present_stores, .ref a_o_present_lacked, .ref a_o_present_helpers, .ref a_o_present_favours, .ref a_o_present_wheel, .ref a_o_present_works])), (a_o_present_helpers, .inl (cI, 6, .inl o_present_helpers))]) hK hN hA hS hP hD [2, 3] rfl rfl (q0 := 0) (ci := 3) rfl rfl rfl) rfl rfl hl.1 rfl (lv_room (Nat.le_of_ble_eq_true rfl)) dX4_count_56 ⟨Nat.zero_le _, Nat.zero_le _⟩) hP hD hS hA [2, 3] rfl rfl rfl (fun H locs hP hD hS => ?_)
        have hP : va_P (dC, dI) vwCl [(a_o, .inr (4, [.ref a_o_text, .ref a_o_tunes, .ref a_o_present, .ref a_o_ahead, .ref a_o_images, .ref a_o_kept, .ref a_o_order, .ref a_o_told, .ref a_o_draft, .long o_trace])), (a_o_text, .inr (0, [.int o_text_length, .ref a_o_text_signs, .ref a_o_text_tokens, .ref a_o_text_starts, .int o_text_cuts, .int o_text_current])), (a_o_present, .inr (3, [.int o_present_round, .int o_present_fell, .int o_present_ills, .ref a_o_present_skills, .ref a_o_present_places, .ref a_o_present_stores, .ref a_o_present_lacked, .ref a_o_present_helpers, .ref a_o_present_favours, .ref a_o_present_wheel, .ref a_o_present_works])), (a_o_present_helpers, .inl (cI, 6, .inl o_present_helpers)), (a_o_told, .inr (1, [.int o_told_trades, .int o_told_people, .ref a_o_told_needs, .ref a_o_told_yields, .ref a_o_told_skips, .ref a_o_told_skills, .ref a_o_told_places, .ref a_o_told_wheel, .int o_told_tradesEnded]))] H := hP
        have hD : va_D A [(a_o, .inr (4, [.ref a_o_text, .ref a_o_tunes, .ref a_o_present, .ref a_o_ahead, .ref a_o_images, .ref a_o_kept, .ref a_o_order, .ref a_o_told, .ref a_o_draft, .long o_trace])), (a_o_text, .inr (0, [.int o_text_length, .ref a_o_text_signs, .ref a_o_text_tokens, .ref a_o_text_starts, .int o_text_cuts, .int o_text_current])), (a_o_present, .inr (3, [.int o_present_round, .int o_present_fell, .int o_present_ills, .ref a_o_present_skills, .ref a_o_present_places, .ref a_o_present_stores, .ref a_o_present_lacked, .ref a_o_present_helpers, .ref a_o_present_favours, .ref a_o_present_wheel, .ref a_o_present_works])), (a_o_present_helpers, .inl (cI, 6, .inl o_present_helpers)), (a_o_told, .inr (1, [.int o_told_trades, .int o_told_people, .ref a_o_told_needs, .ref a_o_told_yields, .ref a_o_told_skips, .ref a_o_told_skills, .ref a_o_told_places, .ref a_o_told_wheel, .int o_told_tradesEnded]))] := hD
        have q0 := Option.some.inj hf
        subst q0
        exact gRi hx hb hr hlocks hP hS dX4_count_59
      · have hf := pif hf c_5
        by_cases c_6 : i1 = (3 : Int32)
        · have hf := pit hf c_6
          refine gTab (off := 59) (tgt := 60) hx hb c_6 dX4_count_1 (by decide) (by decide) (by decide) (by decide) ?_
          refine lv_aload_n hx hb dX4_count_60 rfl (lv_at hl 0 rfl) ?_
          refine va_get (D := (dC, dI)) (ci := 4) (v := .ref a_o_present) (C := RX4) (T := TX4) (N := 10) hx hb hts uX4_count_X4 hown hK hP 0 rfl rfl 2 (by decide) (hts _ mX4_count_3) (fun _ h9 => h9) rfl dX4_count_61 ?_
          refine va_get (D := (dC, dI)) (ci := 3) (v := .int o_present_ills) (C := RX3) (T := TX3) (N := 11) hx hb hts uX4_count_X3 hown hK hP 2 rfl rfl 2 (by decide) (hts _ mX4_count_4) (fun _ h9 => h9) rfl dX4_count_64 ?_
          obtain ⟨r_2, hc, hf⟩ := pb1 hf
          refine gCi (va_runS (As := [.int o_present_ills]) (rest := []) hF (kJ6_bitCount_0f7a4 l dC dI Z cC cI cZ cW  _  o_present_ills N r_2 hc) (va_cwS 1 hts gX4_count_J6_bitCount_0f7a4 rfl rfl rfl (by decide +kernel) ⟨Nat.le_of_ble_eq_true rfl, Nat.le_of_ble_eq_true rfl⟩) (gPS (wc := []) hK hN hA hS hP hD [] rfl rfl) rfl rfl hl.1 rfl (lv_room (Nat.le_of_ble_eq_true rfl)) dX4_count_67 ⟨Nat.zero_le _, Nat.zero_le _⟩) hP hD hS hA [] rfl rfl rfl (fun H locs hP hD hS => ?_)
          have hP : va_P (dC, dI) vwCl [(a_o, .inr (4, [.ref a_o_text, .ref a_o_tunes, .ref a_o_present, .ref a_o_ahead, .ref a_o_images, .ref a_o_kept, .ref a_o_order, .ref a_o_told, .ref a_o_draft, .long o_trace])), (a_o_text, .inr (0, [.int o_text_length, .ref a_o_text_signs, .ref a_o_text_tokens, .ref a_o_text_starts, .int o_text_cuts, .int o_text_current])), (a_o_present, .inr (3, [.int o_present_round, .int o_present_fell, .int o_present_ills, .ref a_o_present_skills, .ref a_o_present_places, .ref a_o_present_stores, .ref a_o_present_lacked, .ref a_o_present_helpers, .ref a_o_present_favours, .ref a_o_present_wheel, .ref a_o_present_works])), (a_o_present_helpers, .inl (cI, 6, .inl o_present_helpers)), (a_o_told, .inr (1, [.int o_told_trades, .int o_told_people, .ref a_o_told_needs, .ref a_o_told_yields, .ref a_o_told_skips, .ref a_o_told_skills, .ref a_o_told_places, .ref a_o_told_wheel, .int o_told_tradesEnded]))] H := hP
          have hD : va_D A [(a_o, .inr (4, [.ref a_o_text, .ref a_o_tunes, .ref a_o_present, .ref a_o_ahead, .ref a_o_images, .ref a_o_kept, .ref a_o_order, .ref a_o_told, .ref a_o_draft, .long o_trace])), (a_o_text, .inr (0, [.int o_text_length, .ref a_o_text_signs, .ref a_o_text_tokens, .ref a_o_text_starts, .int o_text_cuts, .int o_text_current])), (a_o_present, .inr (3, [.int o_present_round, .int o_present_fell, .int o_present_ills, .ref a_o_present_skills, .ref a_o_present_places, .ref a_o_present_stores, .ref a_o_present_lacked, .ref a_o_present_helpers, .ref a_o_present_favours, .ref a_o_present_wheel, .ref a_o_present_works])), (a_o_present_helpers, .inl (cI, 6, .inl o_present_helpers)), (a_o_told, .inr (1, [.int o_told_trades, .int o_told_people, .ref a_o_told_needs, .ref a_o_told_yields, .ref a_o_told_skips, .ref a_o_told_skills, .ref a_o_told_places, .ref a_o_told_wheel, .int o_told_tradesEnded]))] := hD
          have q0 := Option.some.inj hf
          subst q0
          exact gRi hx hb hr hlocks hP hS dX4_count_70
        · have hf := pif hf c_6
          by_cases c_7 : i1 = (4 : Int32)
          · have hf := pit hf c_7
            refine gTab (off := 70) (tgt := 71) hx hb c_7 dX4_count_1 (by decide) (by decide) (by decide) (by decide) ?_
            refine lv_aload_n hx hb dX4_count_71 rfl (lv_at hl 0 rfl) ?_
            refine va_get (D := (dC, dI)) (ci := 4) (v := .ref a_o_text) (C := RX4) (T := TX4) (N := 10) hx hb hts uX4_count_X4 hown hK hP 0 rfl rfl 0 (by decide) (hts _ mX4_count_5) (fun _ h9 => h9) rfl dX4_count_72 ?_
            refine va_get (D := (dC, dI)) (ci := 0) (v := .int o_text_length) (C := RX0) (T := TX0) (N := 6) hx hb hts uX4_count_X0 hown hK hP 1 rfl rfl 0 (by decide) (hts _ mX4_count_6) (fun _ h9 => h9) rfl dX4_count_75 ?_
            have q0 := Option.some.inj hf
            subst q0
            exact gRi hx hb hr hlocks hP hS dX4_count_78
          · have hf := pif hf c_7
            have c_3 := ti_ne (k := 0) c_3 (by decide)
            have c_4 := ti_ne (k := 1) c_4 (by decide)
            have c_5 := ti_ne (k := 2) c_5 (by decide)
            have c_6 := ti_ne (k := 3) c_6 (by decide)
            have c_7 := ti_ne (k := 4) c_7 (by decide)
            refine lv_tableOut (tgt := 79) hx hb dX4_count_1 (by omega) (by decide) ?_
            refine lv_iconst (v := (-1 : Int32)) hx hb dX4_count_79 (by decide) ?_
            have q0 := Option.some.inj hf
            subst q0
            exact gRi hx hb hr hlocks hP hS dX4_count_80
abbrev rmX4_trace : Room := { frames := 0, cells := 0, slots := 0, locals := 0 }
set_option maxRecDepth 20000 in
theorem uX4_trace_X4 : ∀ w ∈ wsX40, w ∈ wsX4_trace := by decide +kernel
set_option maxRecDepth 20000 in
theorem mX4_trace_0 : (Cond.fieldLink RX4 55 "TradeWheel" "trace" "J" : Cond) ∈ wsX4_trace := by decide +kernel
set_option maxHeartbeats 4000000 in
set_option maxRecDepth 100000 in
theorem kX4_trace (l : Launch) (dC : Nat → ClassId) (dI : Nat → Nat → Nat) (Z : gZ) (cC cI cZ cW : ClassId) (a_o a_o_text a_o_tunes a_o_present a_o_ahead a_o_images a_o_kept a_o_order a_o_told a_o_draft : Nat) (sz : Nat) (o_trace : Int64)  (N : Nat) (r' : Int64) (hf : fX4_trace N o_trace   = some r') : Met l yX4_trace wsX4_trace rmX4_trace (va_Pc [.ref a_o] (gB (dC, dI) Z [(cC, .char), (cI, .int), (cZ, .boolean), (cW, .object RX3)] [(a_o, .inr (4, [.ref a_o_text, .ref a_o_tunes, .ref a_o_present, .ref a_o_ahead, .ref a_o_images, .ref a_o_kept, .ref a_o_order, .ref a_o_told, .ref a_o_draft, .long o_trace]))] sz)) (va_Ql (fun (r : Int64) (_ : Unit) => r = r') (gE (dC, dI) [(a_o, .inr (4, [.ref a_o_text, .ref a_o_tunes, .ref a_o_present, .ref a_o_ahead, .ref a_o_images, .ref a_o_kept, .ref a_o_order, .ref a_o_told, .ref a_o_draft, .long o_trace]))]) (va_A [(a_o, .inr (4, [.ref a_o_text, .ref a_o_tunes, .ref a_o_present, .ref a_o_ahead, .ref a_o_images, .ref a_o_kept, .ref a_o_order, .ref a_o_told, .ref a_o_draft, .long o_trace]))] sz)) 0 0 (va_A [(a_o, .inr (4, [.ref a_o_text, .ref a_o_tunes, .ref a_o_present, .ref a_o_ahead, .ref a_o_images, .ref a_o_kept, .ref a_o_order, .ref a_o_told, .ref a_o_draft, .long o_trace]))] sz) := by
  refine gMet (cc := cX4_trace) (maxL := 1) (ret := (some .long)) (Qc := fun A => va_Ql (fun (r : Int64) (_ : Unit) => r = r') (gE (dC, dI) [(a_o, .inr (4, [.ref a_o_text, .ref a_o_tunes, .ref a_o_present, .ref a_o_ahead, .ref a_o_images, .ref a_o_kept, .ref a_o_order, .ref a_o_told, .ref a_o_draft, .long o_trace]))]) A) (by decide) rfl (Nat.le_of_ble_eq_true rfl) ?_
  intro p e s m below meth c A ls hg0 _ hsz hP hD hS hl
  have hg0 : gX p s m _ meth c cX4_trace 1 (some .long) wsX4_trace RX4 (dC, dI) Z [(cC, .char), (cI, .int), (cZ, .boolean), (cW, .object RX3)] A := hg0
  obtain ⟨hx, hb, hr, hml, hown, hts, hlocks, hA, hK, hN⟩ := id hg0
  subst hsz
  have hF : CallFix p m c cX4_trace 1 s _ wsX4_trace RX4 := ⟨hx, hb, hml, hown, hts⟩
  have hl : lv_has ls 1 [(0, .ref a_o)] := hl
  unfold fX4_trace at hf
  refine lv_aload_n hx hb dX4_trace_0 rfl (lv_at hl 0 rfl) ?_
  refine va_get (D := (dC, dI)) (ci := 4) (v := .long o_trace) (C := RX4) (T := TX4) (N := 10) hx hb hts uX4_trace_X4 hown hK hP 0 rfl rfl 9 (by decide) (hts _ mX4_trace_0) (fun _ h9 => h9) rfl dX4_trace_1 ?_
  have q0 := Option.some.inj hf
  subst q0
  exact gRl hx hb hr hlocks hP hS dX4_trace_4
